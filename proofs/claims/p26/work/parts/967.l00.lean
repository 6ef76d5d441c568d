/-! lifts, printed by genlift.py: 0 -/
noncomputable def kc_within (x0 : Int32) (x1 : Int32) (x2 : Int32) : Int32 := (if x0.toInt < x1.toInt then 0 else (if x2.toInt < x0.toInt then 0 else 1))
theorem t_kc_within {f D : Nat} {F : Nat → Nat → Int32} {A : Nat → List Int32} {L : Nat → List Int64} {Q : Option Value → sm_H → Prop} {x0 : Int32} {x1 : Int32} {x2 : Int32} (K : Q (some (.int (kc_within x0 x1 x2))) (hz F A L)) : wl_M f D 10 [.int x0, .int x1, .int x2] (hz F A L) Q := by
  generalize hT : (kc_within x0 x1 x2) = T at K
  have hE : T = (if x0.toInt < x1.toInt then 0 else (if x2.toInt < x0.toInt then 0 else 1)) := hT.symm
  clear hT
  refine w_m (E := mm10) rfl ?_
  show wl_E f f (D - 1) mm10.2.2.2.2.2.2.2.2 0 [some (.int x0), some (.int x1), some (.int x2)] [] (hz F A L) Q
  refine w_n 2 (pc1 := 2) (ls1 := [some (.int x0), some (.int x1), some (.int x2)]) (st1 := [.int x1, .int x0]) (hp1 := (hz F A L)) rfl ?_
  refine w_lt (p3 := 5) rfl rfl (fun h => ?_) (fun h => ?_)
  · have h1 : x0.toInt < x1.toInt := h
    rw [if_pos h1] at hE
    refine w_n 1 (pc1 := 15) (ls1 := [some (.int x0), some (.int x1), some (.int x2)]) (st1 := [.int 0]) (hp1 := (hz F A L)) rfl ?_
    subst T
    exact w_ri rfl (cvQ rfl rfl rfl K)
  · have h1 : x1.toInt ≤ x0.toInt := h
    rw [if_neg (Int.not_lt.mpr h1)] at hE
    refine w_n 2 (pc1 := 7) (ls1 := [some (.int x0), some (.int x1), some (.int x2)]) (st1 := [.int x2, .int x0]) (hp1 := (hz F A L)) rfl ?_
    refine w_gt (p3 := 10) rfl rfl (fun h => ?_) (fun h => ?_)
    · have h2 : x2.toInt < x0.toInt := h
      rw [if_pos h2] at hE
      refine w_n 1 (pc1 := 15) (ls1 := [some (.int x0), some (.int x1), some (.int x2)]) (st1 := [.int 0]) (hp1 := (hz F A L)) rfl ?_
      subst T
      exact w_ri rfl (cvQ rfl rfl rfl K)
    · have h2 : x0.toInt ≤ x2.toInt := h
      rw [if_neg (Int.not_lt.mpr h2)] at hE
      refine w_n 2 (pc1 := 15) (ls1 := [some (.int x0), some (.int x1), some (.int x2)]) (st1 := [.int 1]) (hp1 := (hz F A L)) rfl ?_
      subst T
      exact w_ri rfl (cvQ rfl rfl rfl K)
noncomputable def kja_fill_11_6  (x1 : Int64) : Nat → Int32 → List Int64 → List Int64
  | 0, _, l11 => l11
  | m + 1, y3, l11 => (kja_fill_11_6 x1 m (y3 + 1) (l11.set y3.toInt.toNat x1))
theorem t_kja_fill_11_6 {f : Nat} {Q : Option Value → sm_H → Prop} : ∀ (m : Nat) {B D : Nat} {F : Nat → Nat → Int32} {A : Nat → List Int32} {L : Nat → List Int64} {x1 : Int64} {y3 : Int32} {x4 : Int32}, m = (x4.toInt - y3.toInt).toNat → (∀ q3 : Int32, wl_E f B D mm11.2.2.2.2.2.2.2.2 22 [some (.ref 11), some (.long x1), none, some (.int q3), some (.int x4)] [] (hz F A (uL L 11 (kja_fill_11_6 x1 m y3 (L 11)))) Q) → wl_E f B D mm11.2.2.2.2.2.2.2.2 6 [some (.ref 11), some (.long x1), none, some (.int y3), some (.int x4)] [] (hz F A L) Q := by
  intro m
  induction m with
  | zero =>
    intro B D F A L x1 y3 x4 hm K
    generalize hT : (kja_fill_11_6 x1 0 y3 (L 11)) = T at K
    have hE : T = (L 11) := hT.symm
    clear hT
    refine w_n 2 (pc1 := 9) (ls1 := [some (.ref 11), some (.long x1), none, some (.int y3), some (.int x4)]) (st1 := [.int x4, .int y3]) (hp1 := (hz F A L)) rfl ?_
    refine w_ge (p3 := 12) rfl rfl (fun hb => ?_) (fun h => False.elim (by have h : y3.toInt < x4.toInt := h; omega))
    subst T
    exact cvE rfl rfl (funext fun q => if k0 : q = 11 then by subst k0; exact Eq.trans (b := (L 11)) rfl rfl else by unfold uL; simp only [nb1 k0, cond_false]) (K _)
  | succ m ih =>
    intro B D F A L x1 y3 x4 hm K
    generalize hT : (kja_fill_11_6 x1 (m + 1) y3 (L 11)) = T at K
    have hE : T = (kja_fill_11_6 x1 m (y3 + 1) ((L 11).set y3.toInt.toNat x1)) := hT.symm
    clear hT
    refine w_n 2 (pc1 := 9) (ls1 := [some (.ref 11), some (.long x1), none, some (.int y3), some (.int x4)]) (st1 := [.int x4, .int y3]) (hp1 := (hz F A L)) rfl ?_
    refine w_ge (p3 := 12) rfl rfl (fun h => False.elim (by have h : x4.toInt ≤ y3.toInt := h; omega)) (fun hb => ?_)
    refine w_n 3 (pc1 := 15) (ls1 := [some (.ref 11), some (.long x1), none, some (.int y3), some (.int x4)]) (st1 := [.long x1, .int y3, .ref 11]) (hp1 := (hz F A L)) rfl ?_
    refine w_ls (k := 11) (l := (L 11)) (hp1 := (hz F A (uL L 11 ((L 11).set y3.toInt.toNat x1)))) rfl rfl rfl (hz_s11 _) (fun ab => ?_)
    refine w_n 2 (pc1 := 6) (ls1 := [some (.ref 11), some (.long x1), none, some (.int (y3 + 1)), some (.int x4)]) (st1 := []) (hp1 := (hz F A (uL L 11 ((L 11).set y3.toInt.toNat x1)))) rfl ?_
    subst T
    have hb2 := i_up (B := x4) hb
    have hb3 : y3.toInt < x4.toInt := hb
    exact ih (show m = (x4.toInt - (y3 + 1).toInt).toNat by rw [hb2]; omega) (fun q3 => cvE rfl rfl (funext fun q => if k0 : q = 11 then by subst k0; exact Eq.trans (b := (kja_fill_11_6 x1 m (y3 + 1) ((L 11).set y3.toInt.toNat x1))) rfl rfl else by unfold uL; simp only [nb1 k0, cond_false]) (K q3))
noncomputable def kja_fill_11 (l11 : List Int64) (x1 : Int64) : List Int64 := (kja_fill_11_6 x1 ((Int32.ofNat l11.length).toInt).toNat 0 l11)
theorem t_kja_fill_11 {f D : Nat} {F : Nat → Nat → Int32} {A : Nat → List Int32} {L : Nat → List Int64} {Q : Option Value → sm_H → Prop} {x1 : Int64} (K : Q none (hz F A (uL L 11 (kja_fill_11 (L 11) x1)))) : wl_M f D 11 [.ref 11, .long x1] (hz F A L) Q := by
  generalize hT : (kja_fill_11 (L 11) x1) = T at K
  have hE : T = (kja_fill_11_6 x1 ((Int32.ofNat (L 11).length).toInt).toNat 0 (L 11)) := hT.symm
  clear hT
  refine w_m (E := mm11) rfl ?_
  show wl_E f f (D - 1) mm11.2.2.2.2.2.2.2.2 0 [some (.ref 11), some (.long x1), none, none, none] [] (hz F A L) Q
  refine w_n 5 (pc1 := 6) (ls1 := [some (.ref 11), some (.long x1), none, some (.int 0), some (.int (Int32.ofNat (L 11).length))]) (st1 := []) (hp1 := (hz F A L)) rfl ?_
  refine t_kja_fill_11_6 (((Int32.ofNat (L 11).length).toInt).toNat) (show ((Int32.ofNat (L 11).length).toInt).toNat = ((Int32.ofNat (L 11).length).toInt - (0 : Int32).toInt).toNat by have e0 : (0 : Int32).toInt = 0 := rfl; first | rfl | omega) ?_
  intro r1
  show wl_E f _ _ mm11.2.2.2.2.2.2.2.2 22 [some (.ref 11), some (.long x1), none, some (.int r1), some (.int (Int32.ofNat (L 11).length))] [] (hz F A (uL L 11 (kja_fill_11_6 x1 ((Int32.ofNat (L 11).length).toInt).toNat 0 (L 11)))) _
  generalize hG1 : (kja_fill_11_6 x1 ((Int32.ofNat (L 11).length).toInt).toNat 0 (L 11)) = G1 at hE ⊢
  subst T
  exact w_r rfl rfl (cvQ rfl rfl rfl K)
noncomputable def kc_measures (f0_11 : Int32) (f3_0 : Int32) (f3_3 : Int32) (l11 : List Int64) (x1 : Int32) : Int32 × Int32 × Int32 × Int32 × List Int64 := (if (kc_within x1 2 6) = 0 then (0, f0_11, f3_0, f3_3, l11) else (1, 0, x1, 0, (kja_fill_11 l11 0)))
theorem t_kc_measures {f D : Nat} {F : Nat → Nat → Int32} {A : Nat → List Int32} {L : Nat → List Int64} {Q : Option Value → sm_H → Prop} {x1 : Int32} (K : Q (some (.int ((kc_measures (F 0 11) (F 3 0) (F 3 3) (L 11) x1).1))) (hz (uF (uF (uF F 0 11 ((kc_measures (F 0 11) (F 3 0) (F 3 3) (L 11) x1).2.1)) 3 0 ((kc_measures (F 0 11) (F 3 0) (F 3 3) (L 11) x1).2.2.1)) 3 3 ((kc_measures (F 0 11) (F 3 0) (F 3 3) (L 11) x1).2.2.2.1)) A (uL L 11 ((kc_measures (F 0 11) (F 3 0) (F 3 3) (L 11) x1).2.2.2.2)))) : wl_M f D 9 [.ref 0, .int x1] (hz F A L) Q := by
  generalize hT : (kc_measures (F 0 11) (F 3 0) (F 3 3) (L 11) x1) = T at K
  have hE : T = (if (kc_within x1 2 6) = 0 then (0, (F 0 11), (F 3 0), (F 3 3), (L 11)) else (1, 0, x1, 0, (kja_fill_11 (L 11) 0))) := hT.symm
  clear hT
  refine w_m (E := mm9) rfl ?_
  show wl_E f f (D - 1) mm9.2.2.2.2.2.2.2.2 0 [some (.ref 0), some (.int x1)] [] (hz F A L) Q
  refine w_n 3 (pc1 := 4) (ls1 := [some (.ref 0), some (.int x1)]) (st1 := [.int 6, .int 2, .int x1]) (hp1 := (hz F A L)) rfl ?_
  refine w_c rfl rfl (t_kc_within ?_)
  show wl_E f _ _ mm9.2.2.2.2.2.2.2.2 7 [some (.ref 0), some (.int x1)] [.int (kc_within x1 2 6)] (hz F A L) _
  generalize hG0 : (kc_within x1 2 6) = G0 at hE ⊢
  refine w_zne (p3 := 10) rfl rfl (fun h => ?_) (fun h => ?_)
  · have h1 : ¬ G0 = 0 := h
    rw [if_neg h1] at hE
    refine w_n 3 (pc1 := 17) (ls1 := [some (.ref 0), some (.int x1)]) (st1 := [.int x1, .ref 3]) (hp1 := (hz F A L)) rfl ?_
    refine w_pf (k := 3) (fs := hz_f3 F) (hp1 := (hz (uF F 3 0 x1) A L)) rfl rfl rfl (hz_p3_0 _) ?_
    refine w_n 3 (pc1 := 25) (ls1 := [some (.ref 0), some (.int x1)]) (st1 := [.int 0, .ref 3]) (hp1 := (hz (uF F 3 0 x1) A L)) rfl ?_
    refine w_pf (k := 3) (fs := hz_f3 (uF F 3 0 x1)) (hp1 := (hz (uF (uF F 3 0 x1) 3 3 0) A L)) rfl rfl rfl (hz_p3_3 _) ?_
    refine w_n 4 (pc1 := 36) (ls1 := [some (.ref 0), some (.int x1)]) (st1 := [.long 0, .ref 11]) (hp1 := (hz (uF (uF F 3 0 x1) 3 3 0) A L)) rfl ?_
    refine w_c rfl rfl (t_kja_fill_11 ?_)
    show wl_E f _ _ mm9.2.2.2.2.2.2.2.2 39 [some (.ref 0), some (.int x1)] [] (hz (uF (uF F 3 0 x1) 3 3 0) A (uL L 11 (kja_fill_11 (L 11) 0))) _
    generalize hG2 : (kja_fill_11 (L 11) 0) = G2 at hE ⊢
    refine w_n 2 (pc1 := 41) (ls1 := [some (.ref 0), some (.int x1)]) (st1 := [.int 0, .ref 0]) (hp1 := (hz (uF (uF F 3 0 x1) 3 3 0) A (uL L 11 G2))) rfl ?_
    refine w_pf (k := 0) (fs := hz_f0 (uF (uF F 3 0 x1) 3 3 0)) (hp1 := (hz (uF (uF (uF F 3 0 x1) 3 3 0) 0 11 0) A (uL L 11 G2))) rfl rfl rfl (hz_p0_11 _) ?_
    refine w_n 1 (pc1 := 45) (ls1 := [some (.ref 0), some (.int x1)]) (st1 := [.int 1]) (hp1 := (hz (uF (uF (uF F 3 0 x1) 3 3 0) 0 11 0) A (uL L 11 G2))) rfl ?_
    subst T
    exact w_ri rfl (cvQ (funext fun q => funext fun z => if k0 : q = 0 ∧ z = 11 then by obtain ⟨w1, w2⟩ := k0; subst w1; subst w2; exact Eq.trans (b := 0) rfl rfl else if k1 : q = 3 ∧ z = 0 then by obtain ⟨w1, w2⟩ := k1; subst w1; subst w2; exact Eq.trans (b := x1) rfl rfl else if k2 : q = 3 ∧ z = 3 then by obtain ⟨w1, w2⟩ := k2; subst w1; subst w2; exact Eq.trans (b := 0) rfl rfl else by unfold uF; simp only [nb2 k0, nb2 k1, nb2 k2, cond_false]) rfl rfl K)
  · have h1 : G0 = 0 := h
    rw [if_pos h1] at hE
    refine w_n 1 (pc1 := 11) (ls1 := [some (.ref 0), some (.int x1)]) (st1 := [.int 0]) (hp1 := (hz F A L)) rfl ?_
    subst T
    exact w_ri rfl (cvQ (funext fun q => funext fun z => if k0 : q = 0 ∧ z = 11 then by obtain ⟨w1, w2⟩ := k0; subst w1; subst w2; exact Eq.trans (b := (F 0 11)) rfl rfl else if k1 : q = 3 ∧ z = 0 then by obtain ⟨w1, w2⟩ := k1; subst w1; subst w2; exact Eq.trans (b := (F 3 0)) rfl rfl else if k2 : q = 3 ∧ z = 3 then by obtain ⟨w1, w2⟩ := k2; subst w1; subst w2; exact Eq.trans (b := (F 3 3)) rfl rfl else by unfold uF; simp only [nb2 k0, nb2 k1, nb2 k2, cond_false]) rfl (funext fun q => if k0 : q = 11 then by subst k0; exact Eq.trans (b := (L 11)) rfl rfl else by unfold uL; simp only [nb1 k0, cond_false]) K)
noncomputable def km_in (x0 : Int32) (x1 : Int32) (x2 : Int32) : Int32 := (if x0.toInt < x1.toInt then 0 else (if x2.toInt < x0.toInt then 0 else 1))
theorem t_km_in {f D : Nat} {F : Nat → Nat → Int32} {A : Nat → List Int32} {L : Nat → List Int64} {Q : Option Value → sm_H → Prop} {x0 : Int32} {x1 : Int32} {x2 : Int32} (K : Q (some (.int (km_in x0 x1 x2))) (hz F A L)) : wl_M f D 141 [.int x0, .int x1, .int x2] (hz F A L) Q := by
  generalize hT : (km_in x0 x1 x2) = T at K
  have hE : T = (if x0.toInt < x1.toInt then 0 else (if x2.toInt < x0.toInt then 0 else 1)) := hT.symm
  clear hT
  refine w_m (E := mm141) rfl ?_
  show wl_E f f (D - 1) mm141.2.2.2.2.2.2.2.2 0 [some (.int x0), some (.int x1), some (.int x2)] [] (hz F A L) Q
  refine w_n 2 (pc1 := 2) (ls1 := [some (.int x0), some (.int x1), some (.int x2)]) (st1 := [.int x1, .int x0]) (hp1 := (hz F A L)) rfl ?_
  refine w_lt (p3 := 5) rfl rfl (fun h => ?_) (fun h => ?_)
  · have h1 : x0.toInt < x1.toInt := h
    rw [if_pos h1] at hE
    refine w_n 1 (pc1 := 15) (ls1 := [some (.int x0), some (.int x1), some (.int x2)]) (st1 := [.int 0]) (hp1 := (hz F A L)) rfl ?_
    subst T
    exact w_ri rfl (cvQ rfl rfl rfl K)
  · have h1 : x1.toInt ≤ x0.toInt := h
    rw [if_neg (Int.not_lt.mpr h1)] at hE
    refine w_n 2 (pc1 := 7) (ls1 := [some (.int x0), some (.int x1), some (.int x2)]) (st1 := [.int x2, .int x0]) (hp1 := (hz F A L)) rfl ?_
    refine w_gt (p3 := 10) rfl rfl (fun h => ?_) (fun h => ?_)
    · have h2 : x2.toInt < x0.toInt := h
      rw [if_pos h2] at hE
      refine w_n 1 (pc1 := 15) (ls1 := [some (.int x0), some (.int x1), some (.int x2)]) (st1 := [.int 0]) (hp1 := (hz F A L)) rfl ?_
      subst T
      exact w_ri rfl (cvQ rfl rfl rfl K)
    · have h2 : x0.toInt ≤ x2.toInt := h
      rw [if_neg (Int.not_lt.mpr h2)] at hE
      refine w_n 2 (pc1 := 15) (ls1 := [some (.int x0), some (.int x1), some (.int x2)]) (st1 := [.int 1]) (hp1 := (hz F A L)) rfl ?_
      subst T
      exact w_ri rfl (cvQ rfl rfl rfl K)
noncomputable def km_ranksNone_2  (x1 : Int32) : Nat → Int32 → List Int32 → List Int32
  | 0, _, a68 => a68
  | m + 1, y2, a68 => (km_ranksNone_2 x1 m (y2 + 1) (a68.set ((72 + (6 * x1)) + y2).toInt.toNat 0))
theorem t_km_ranksNone_2 {f : Nat} {Q : Option Value → sm_H → Prop} : ∀ (m : Nat) {B D : Nat} {F : Nat → Nat → Int32} {A : Nat → List Int32} {L : Nat → List Int64} {x1 : Int32} {y2 : Int32}, m = (6 - y2.toInt).toNat → (∀ q2 : Int32, wl_E f B D mm142.2.2.2.2.2.2.2.2 29 [some (.ref 67), some (.int x1), some (.int q2)] [] (hz F (uA A 68 (km_ranksNone_2 x1 m y2 (A 68))) L) Q) → wl_E f B D mm142.2.2.2.2.2.2.2.2 2 [some (.ref 67), some (.int x1), some (.int y2)] [] (hz F A L) Q := by
  intro m
  induction m with
  | zero =>
    intro B D F A L x1 y2 hm K
    generalize hT : (km_ranksNone_2 x1 0 y2 (A 68)) = T at K
    have hE : T = (A 68) := hT.symm
    clear hT
    refine w_n 2 (pc1 := 5) (ls1 := [some (.ref 67), some (.int x1), some (.int y2)]) (st1 := [.int 6, .int y2]) (hp1 := (hz F A L)) rfl ?_
    refine w_ge (p3 := 8) rfl rfl (fun hb => ?_) (fun h => False.elim (by have h : y2.toInt < 6 := h; omega))
    subst T
    exact cvE rfl (funext fun q => if k0 : q = 68 then by subst k0; exact Eq.trans (b := (A 68)) rfl rfl else by unfold uA; simp only [nb1 k0, cond_false]) rfl (K _)
  | succ m ih =>
    intro B D F A L x1 y2 hm K
    generalize hT : (km_ranksNone_2 x1 (m + 1) y2 (A 68)) = T at K
    have hE : T = (km_ranksNone_2 x1 m (y2 + 1) ((A 68).set ((72 + (6 * x1)) + y2).toInt.toNat 0)) := hT.symm
    clear hT
    refine w_n 2 (pc1 := 5) (ls1 := [some (.ref 67), some (.int x1), some (.int y2)]) (st1 := [.int 6, .int y2]) (hp1 := (hz F A L)) rfl ?_
    refine w_ge (p3 := 8) rfl rfl (fun h => False.elim (by have h : 6 ≤ y2.toInt := h; omega)) (fun hb => ?_)
    refine w_n 10 (pc1 := 22) (ls1 := [some (.ref 67), some (.int x1), some (.int y2)]) (st1 := [.int 0, .int ((72 + (6 * x1)) + y2), .ref 68]) (hp1 := (hz F A L)) rfl ?_
    refine w_as (k := 68) (l := (A 68)) (hp1 := (hz F (uA A 68 ((A 68).set ((72 + (6 * x1)) + y2).toInt.toNat 0)) L)) rfl rfl rfl (hz_s68 _) (fun _ => ?_)
    refine w_n 2 (pc1 := 2) (ls1 := [some (.ref 67), some (.int x1), some (.int (y2 + 1))]) (st1 := []) (hp1 := (hz F (uA A 68 ((A 68).set ((72 + (6 * x1)) + y2).toInt.toNat 0)) L)) rfl ?_
    subst T
    have hb2 := i_up (B := (6 : Int32)) hb
    have hb3 : y2.toInt < 6 := hb
    exact ih (show m = (6 - (y2 + 1).toInt).toNat by rw [hb2]; omega) (fun q2 => cvE rfl (funext fun q => if k0 : q = 68 then by subst k0; exact Eq.trans (b := (km_ranksNone_2 x1 m (y2 + 1) ((A 68).set ((72 + (6 * x1)) + y2).toInt.toNat 0))) rfl rfl else by unfold uA; simp only [nb1 k0, cond_false]) rfl (K q2))
noncomputable def km_ranksNone (a68 : List Int32) (x1 : Int32) : List Int32 := (km_ranksNone_2 x1 6 0 a68)
theorem t_km_ranksNone {f D : Nat} {F : Nat → Nat → Int32} {A : Nat → List Int32} {L : Nat → List Int64} {Q : Option Value → sm_H → Prop} {x1 : Int32} (K : Q none (hz F (uA A 68 (km_ranksNone (A 68) x1)) L)) : wl_M f D 142 [.ref 67, .int x1] (hz F A L) Q := by
  generalize hT : (km_ranksNone (A 68) x1) = T at K
  have hE : T = (km_ranksNone_2 x1 6 0 (A 68)) := hT.symm
  clear hT
  refine w_m (E := mm142) rfl ?_
  show wl_E f f (D - 1) mm142.2.2.2.2.2.2.2.2 0 [some (.ref 67), some (.int x1), none] [] (hz F A L) Q
  refine w_n 2 (pc1 := 2) (ls1 := [some (.ref 67), some (.int x1), some (.int 0)]) (st1 := []) (hp1 := (hz F A L)) rfl ?_
  refine t_km_ranksNone_2 6 (show (6 : Nat) = (6 - (0 : Int32).toInt).toNat by have e0 : (0 : Int32).toInt = 0 := rfl; first | rfl | omega) ?_
  intro r1
  show wl_E f _ _ mm142.2.2.2.2.2.2.2.2 29 [some (.ref 67), some (.int x1), some (.int r1)] [] (hz F (uA A 68 (km_ranksNone_2 x1 6 0 (A 68))) L) _
  generalize hG4 : (km_ranksNone_2 x1 6 0 (A 68)) = G4 at hE ⊢
  subst T
  exact w_r rfl rfl (cvQ rfl rfl rfl K)
noncomputable def km_measures_19   : Nat → Int32 → List Int32 → List Int32
  | 0, _, a68 => a68
  | m + 1, y2, a68 => (km_measures_19 m (y2 + 1) (km_ranksNone a68 y2))
theorem t_km_measures_19 {f : Nat} {Q : Option Value → sm_H → Prop} : ∀ (m : Nat) {B D : Nat} {F : Nat → Nat → Int32} {A : Nat → List Int32} {L : Nat → List Int64} {x1 : Int32} {y2 : Int32}, m = (12 - y2.toInt).toNat → (∀ q2 : Int32, wl_E f B D mm140.2.2.2.2.2.2.2.2 36 [some (.ref 67), some (.int x1), some (.int q2)] [] (hz F (uA A 68 (km_measures_19 m y2 (A 68))) L) Q) → wl_E f B D mm140.2.2.2.2.2.2.2.2 19 [some (.ref 67), some (.int x1), some (.int y2)] [] (hz F A L) Q := by
  intro m
  induction m with
  | zero =>
    intro B D F A L x1 y2 hm K
    generalize hT : (km_measures_19 0 y2 (A 68)) = T at K
    have hE : T = (A 68) := hT.symm
    clear hT
    refine w_n 2 (pc1 := 22) (ls1 := [some (.ref 67), some (.int x1), some (.int y2)]) (st1 := [.int 12, .int y2]) (hp1 := (hz F A L)) rfl ?_
    refine w_ge (p3 := 25) rfl rfl (fun hb => ?_) (fun h => False.elim (by have h : y2.toInt < 12 := h; omega))
    subst T
    exact cvE rfl (funext fun q => if k0 : q = 68 then by subst k0; exact Eq.trans (b := (A 68)) rfl rfl else by unfold uA; simp only [nb1 k0, cond_false]) rfl (K _)
  | succ m ih =>
    intro B D F A L x1 y2 hm K
    generalize hT : (km_measures_19 (m + 1) y2 (A 68)) = T at K
    have hE : T = (km_measures_19 m (y2 + 1) (km_ranksNone (A 68) y2)) := hT.symm
    clear hT
    refine w_n 2 (pc1 := 22) (ls1 := [some (.ref 67), some (.int x1), some (.int y2)]) (st1 := [.int 12, .int y2]) (hp1 := (hz F A L)) rfl ?_
    refine w_ge (p3 := 25) rfl rfl (fun h => False.elim (by have h : 12 ≤ y2.toInt := h; omega)) (fun hb => ?_)
    refine w_n 2 (pc1 := 27) (ls1 := [some (.ref 67), some (.int x1), some (.int y2)]) (st1 := [.int y2, .ref 67]) (hp1 := (hz F A L)) rfl ?_
    refine w_c rfl rfl (t_km_ranksNone ?_)
    show wl_E f _ _ mm140.2.2.2.2.2.2.2.2 30 [some (.ref 67), some (.int x1), some (.int y2)] [] (hz F (uA A 68 (km_ranksNone (A 68) y2)) L) _
    generalize hG5 : (km_ranksNone (A 68) y2) = G5 at hE ⊢
    refine w_n 2 (pc1 := 19) (ls1 := [some (.ref 67), some (.int x1), some (.int (y2 + 1))]) (st1 := []) (hp1 := (hz F (uA A 68 G5) L)) rfl ?_
    subst T
    have hb2 := i_up (B := (12 : Int32)) hb
    have hb3 : y2.toInt < 12 := hb
    exact ih (show m = (12 - (y2 + 1).toInt).toNat by rw [hb2]; omega) (fun q2 => cvE rfl (funext fun q => if k0 : q = 68 then by subst k0; exact Eq.trans (b := (km_measures_19 m (y2 + 1) G5)) rfl rfl else by unfold uA; simp only [nb1 k0, cond_false]) rfl (K q2))
noncomputable def km_measures (f67_3 : Int32) (f67_6 : Int32) (a68 : List Int32) (x1 : Int32) : Int32 × Int32 × Int32 × List Int32 := (if (km_in x1 2 6) = 0 then (0, f67_3, f67_6, a68) else (1, x1, 0, ((km_measures_19 12 0 a68).set 146 0)))
theorem t_km_measures {f D : Nat} {F : Nat → Nat → Int32} {A : Nat → List Int32} {L : Nat → List Int64} {Q : Option Value → sm_H → Prop} {x1 : Int32} (K : Q (some (.int ((km_measures (F 67 3) (F 67 6) (A 68) x1).1))) (hz (uF (uF F 67 3 ((km_measures (F 67 3) (F 67 6) (A 68) x1).2.1)) 67 6 ((km_measures (F 67 3) (F 67 6) (A 68) x1).2.2.1)) (uA A 68 ((km_measures (F 67 3) (F 67 6) (A 68) x1).2.2.2)) L)) : wl_M f D 140 [.ref 67, .int x1] (hz F A L) Q := by
  generalize hT : (km_measures (F 67 3) (F 67 6) (A 68) x1) = T at K
  have hE : T = (if (km_in x1 2 6) = 0 then (0, (F 67 3), (F 67 6), (A 68)) else (1, x1, 0, ((km_measures_19 12 0 (A 68)).set 146 0))) := hT.symm
  clear hT
  refine w_m (E := mm140) rfl ?_
  show wl_E f f (D - 1) mm140.2.2.2.2.2.2.2.2 0 [some (.ref 67), some (.int x1), none] [] (hz F A L) Q
  refine w_n 3 (pc1 := 4) (ls1 := [some (.ref 67), some (.int x1), none]) (st1 := [.int 6, .int 2, .int x1]) (hp1 := (hz F A L)) rfl ?_
  refine w_c rfl rfl (t_km_in ?_)
  show wl_E f _ _ mm140.2.2.2.2.2.2.2.2 7 [some (.ref 67), some (.int x1), none] [.int (km_in x1 2 6)] (hz F A L) _
  generalize hG3 : (km_in x1 2 6) = G3 at hE ⊢
  refine w_zne (p3 := 10) rfl rfl (fun h => ?_) (fun h => ?_)
  · have h1 : ¬ G3 = 0 := h
    rw [if_neg h1] at hE
    refine w_n 2 (pc1 := 14) (ls1 := [some (.ref 67), some (.int x1), none]) (st1 := [.int x1, .ref 67]) (hp1 := (hz F A L)) rfl ?_
    refine w_pf (k := 67) (fs := hz_f67 F) (hp1 := (hz (uF F 67 3 x1) A L)) rfl rfl rfl (hz_p67_3 _) ?_
    refine w_n 2 (pc1 := 19) (ls1 := [some (.ref 67), some (.int x1), some (.int 0)]) (st1 := []) (hp1 := (hz (uF F 67 3 x1) A L)) rfl ?_
    refine t_km_measures_19 12 (show (12 : Nat) = (12 - (0 : Int32).toInt).toNat by have e0 : (0 : Int32).toInt = 0 := rfl; first | rfl | omega) ?_
    intro r1
    show wl_E f _ _ mm140.2.2.2.2.2.2.2.2 36 [some (.ref 67), some (.int x1), some (.int r1)] [] (hz (uF F 67 3 x1) (uA A 68 (km_measures_19 12 0 (A 68))) L) _
    generalize hG6 : (km_measures_19 12 0 (A 68)) = G6 at hE ⊢
    refine w_n 4 (pc1 := 44) (ls1 := [some (.ref 67), some (.int x1), some (.int r1)]) (st1 := [.int 0, .int 146, .ref 68]) (hp1 := (hz (uF F 67 3 x1) (uA A 68 G6) L)) rfl ?_
    refine w_as (k := 68) (l := G6) (hp1 := (hz (uF F 67 3 x1) (uA (uA A 68 G6) 68 (G6.set 146 0)) L)) rfl rfl rfl (hz_s68 _) (fun _ => ?_)
    refine w_n 2 (pc1 := 47) (ls1 := [some (.ref 67), some (.int x1), some (.int r1)]) (st1 := [.int 0, .ref 67]) (hp1 := (hz (uF F 67 3 x1) (uA (uA A 68 G6) 68 (G6.set 146 0)) L)) rfl ?_
    refine w_pf (k := 67) (fs := hz_f67 (uF F 67 3 x1)) (hp1 := (hz (uF (uF F 67 3 x1) 67 6 0) (uA (uA A 68 G6) 68 (G6.set 146 0)) L)) rfl rfl rfl (hz_p67_6 _) ?_
    refine w_n 1 (pc1 := 51) (ls1 := [some (.ref 67), some (.int x1), some (.int r1)]) (st1 := [.int 1]) (hp1 := (hz (uF (uF F 67 3 x1) 67 6 0) (uA (uA A 68 G6) 68 (G6.set 146 0)) L)) rfl ?_
    subst T
    exact w_ri rfl (cvQ rfl (funext fun q => if k0 : q = 68 then by subst k0; exact Eq.trans (b := (G6.set 146 0)) rfl rfl else by unfold uA; simp only [nb1 k0, cond_false]) rfl K)
  · have h1 : G3 = 0 := h
    rw [if_pos h1] at hE
    refine w_n 1 (pc1 := 11) (ls1 := [some (.ref 67), some (.int x1), none]) (st1 := [.int 0]) (hp1 := (hz F A L)) rfl ?_
    subst T
    exact w_ri rfl (cvQ (funext fun q => funext fun z => if k0 : q = 67 ∧ z = 3 then by obtain ⟨w1, w2⟩ := k0; subst w1; subst w2; exact Eq.trans (b := (F 67 3)) rfl rfl else if k1 : q = 67 ∧ z = 6 then by obtain ⟨w1, w2⟩ := k1; subst w1; subst w2; exact Eq.trans (b := (F 67 6)) rfl rfl else by unfold uF; simp only [nb2 k0, nb2 k1, cond_false]) (funext fun q => if k0 : q = 68 then by subst k0; exact Eq.trans (b := (A 68)) rfl rfl else by unfold uA; simp only [nb1 k0, cond_false]) rfl K)
noncomputable def kt_isTold (f3_1 : Int32) (x1 : Int32) : Int32 := (if x1.toInt < 0 then 0 else (if x1.toInt < 12 then (if ((f3_1 >>> (x1 &&& 31)) &&& 1) = 0 then 0 else 1) else 0))
theorem t_kt_isTold {f D : Nat} {F : Nat → Nat → Int32} {A : Nat → List Int32} {L : Nat → List Int64} {Q : Option Value → sm_H → Prop} {x1 : Int32} (K : Q (some (.int (kt_isTold (F 3 1) x1))) (hz F A L)) : wl_M f D 14 [.ref 3, .int x1] (hz F A L) Q := by
  generalize hT : (kt_isTold (F 3 1) x1) = T at K
  have hE : T = (if x1.toInt < 0 then 0 else (if x1.toInt < 12 then (if (((F 3 1) >>> (x1 &&& 31)) &&& 1) = 0 then 0 else 1) else 0)) := hT.symm
  clear hT
  refine w_m (E := mm14) rfl ?_
  show wl_E f f (D - 1) mm14.2.2.2.2.2.2.2.2 0 [some (.ref 3), some (.int x1)] [] (hz F A L) Q
  refine w_n 1 (pc1 := 1) (ls1 := [some (.ref 3), some (.int x1)]) (st1 := [.int x1]) (hp1 := (hz F A L)) rfl ?_
  refine w_zlt (p3 := 4) rfl rfl (fun h => ?_) (fun h => ?_)
  · have h1 : x1.toInt < 0 := h
    rw [if_pos h1] at hE
    refine w_n 1 (pc1 := 26) (ls1 := [some (.ref 3), some (.int x1)]) (st1 := [.int 0]) (hp1 := (hz F A L)) rfl ?_
    subst T
    exact w_ri rfl (cvQ rfl rfl rfl K)
  · have h1 : 0 ≤ x1.toInt := h
    rw [if_neg (Int.not_lt.mpr h1)] at hE
    refine w_n 2 (pc1 := 7) (ls1 := [some (.ref 3), some (.int x1)]) (st1 := [.int 12, .int x1]) (hp1 := (hz F A L)) rfl ?_
    refine w_ge (p3 := 10) rfl rfl (fun h => ?_) (fun h => ?_)
    · have h2 : 12 ≤ x1.toInt := h
      rw [if_neg (Int.not_lt.mpr h2)] at hE
      refine w_n 1 (pc1 := 26) (ls1 := [some (.ref 3), some (.int x1)]) (st1 := [.int 0]) (hp1 := (hz F A L)) rfl ?_
      subst T
      exact w_ri rfl (cvQ rfl rfl rfl K)
    · have h2 : x1.toInt < 12 := h
      rw [if_pos h2] at hE
      refine w_n 6 (pc1 := 18) (ls1 := [some (.ref 3), some (.int x1)]) (st1 := [.int (((F 3 1) >>> (x1 &&& 31)) &&& 1)]) (hp1 := (hz F A L)) rfl ?_
      refine w_zeq (p3 := 21) rfl rfl (fun h => ?_) (fun h => ?_)
      · have h3 : (((F 3 1) >>> (x1 &&& 31)) &&& 1) = 0 := h
        rw [if_pos h3] at hE
        refine w_n 1 (pc1 := 26) (ls1 := [some (.ref 3), some (.int x1)]) (st1 := [.int 0]) (hp1 := (hz F A L)) rfl ?_
        subst T
        exact w_ri rfl (cvQ rfl rfl rfl K)
      · have h3 : ¬ (((F 3 1) >>> (x1 &&& 31)) &&& 1) = 0 := h
        rw [if_neg h3] at hE
        refine w_n 2 (pc1 := 26) (ls1 := [some (.ref 3), some (.int x1)]) (st1 := [.int 1]) (hp1 := (hz F A L)) rfl ?_
        subst T
        exact w_ri rfl (cvQ rfl rfl rfl K)
noncomputable def kt_place (f3_1 : Int32) (a4 : List Int32) (a5 : List Int32) (a9 : List Int32) (a10 : List Int32) (l11 : List Int64) (x1 : Int32) (x2 : Int32) : Int32 × List Int32 × List Int32 × List Int32 × List Int32 × List Int64 := (if (kt_isTold f3_1 x1) = 0 then ((f3_1 ||| ((1 : Int32) <<< (x1 &&& 31))), (a4.set x2.toInt.toNat x1), (a5.set x1.toInt.toNat x2), (a9.set x1.toInt.toNat 0), (a10.set x1.toInt.toNat 0), (l11.set x1.toInt.toNat 0)) else ((f3_1 ||| ((1 : Int32) <<< (x1 &&& 31))), ((a4.set (a5.getD x1.toInt.toNat 0).toInt.toNat (-1)).set x2.toInt.toNat x1), (a5.set x1.toInt.toNat x2), (a9.set x1.toInt.toNat 0), (a10.set x1.toInt.toNat 0), (l11.set x1.toInt.toNat 0)))
theorem t_kt_place {f D : Nat} {F : Nat → Nat → Int32} {A : Nat → List Int32} {L : Nat → List Int64} {Q : Option Value → sm_H → Prop} {x1 : Int32} {x2 : Int32} (K : Q none (hz (uF F 3 1 ((kt_place (F 3 1) (A 4) (A 5) (A 9) (A 10) (L 11) x1 x2).1)) (uA (uA (uA (uA A 4 ((kt_place (F 3 1) (A 4) (A 5) (A 9) (A 10) (L 11) x1 x2).2.1)) 5 ((kt_place (F 3 1) (A 4) (A 5) (A 9) (A 10) (L 11) x1 x2).2.2.1)) 9 ((kt_place (F 3 1) (A 4) (A 5) (A 9) (A 10) (L 11) x1 x2).2.2.2.1)) 10 ((kt_place (F 3 1) (A 4) (A 5) (A 9) (A 10) (L 11) x1 x2).2.2.2.2.1)) (uL L 11 ((kt_place (F 3 1) (A 4) (A 5) (A 9) (A 10) (L 11) x1 x2).2.2.2.2.2)))) : wl_M f D 13 [.ref 3, .int x1, .int x2] (hz F A L) Q := by
  generalize hT : (kt_place (F 3 1) (A 4) (A 5) (A 9) (A 10) (L 11) x1 x2) = T at K
  have hE : T = (if (kt_isTold (F 3 1) x1) = 0 then (((F 3 1) ||| ((1 : Int32) <<< (x1 &&& 31))), ((A 4).set x2.toInt.toNat x1), ((A 5).set x1.toInt.toNat x2), ((A 9).set x1.toInt.toNat 0), ((A 10).set x1.toInt.toNat 0), ((L 11).set x1.toInt.toNat 0)) else (((F 3 1) ||| ((1 : Int32) <<< (x1 &&& 31))), (((A 4).set ((A 5).getD x1.toInt.toNat 0).toInt.toNat (-1)).set x2.toInt.toNat x1), ((A 5).set x1.toInt.toNat x2), ((A 9).set x1.toInt.toNat 0), ((A 10).set x1.toInt.toNat 0), ((L 11).set x1.toInt.toNat 0))) := hT.symm
  clear hT
  refine w_m (E := mm13) rfl ?_
  show wl_E f f (D - 1) mm13.2.2.2.2.2.2.2.2 0 [some (.ref 3), some (.int x1), some (.int x2)] [] (hz F A L) Q
  refine w_n 2 (pc1 := 2) (ls1 := [some (.ref 3), some (.int x1), some (.int x2)]) (st1 := [.int x1, .ref 3]) (hp1 := (hz F A L)) rfl ?_
  refine w_c rfl rfl (t_kt_isTold ?_)
  show wl_E f _ _ mm13.2.2.2.2.2.2.2.2 5 [some (.ref 3), some (.int x1), some (.int x2)] [.int (kt_isTold (F 3 1) x1)] (hz F A L) _
  generalize hG12 : (kt_isTold (F 3 1) x1) = G12 at hE ⊢
  refine w_zeq (p3 := 8) rfl rfl (fun h => ?_) (fun h => ?_)
  · have h1 : G12 = 0 := h
    rw [if_pos h1] at hE
    refine w_n 7 (pc1 := 29) (ls1 := [some (.ref 3), some (.int x1), some (.int x2)]) (st1 := [.int ((F 3 1) ||| ((1 : Int32) <<< (x1 &&& 31))), .ref 3]) (hp1 := (hz F A L)) rfl ?_
    refine w_pf (k := 3) (fs := hz_f3 F) (hp1 := (hz (uF F 3 1 ((F 3 1) ||| ((1 : Int32) <<< (x1 &&& 31)))) A L)) rfl rfl rfl (hz_p3_1 _) ?_
    refine w_n 4 (pc1 := 38) (ls1 := [some (.ref 3), some (.int x1), some (.int x2)]) (st1 := [.int x2, .int x1, .ref 5]) (hp1 := (hz (uF F 3 1 ((F 3 1) ||| ((1 : Int32) <<< (x1 &&& 31)))) A L)) rfl ?_
    refine w_as (k := 5) (l := (A 5)) (hp1 := (hz (uF F 3 1 ((F 3 1) ||| ((1 : Int32) <<< (x1 &&& 31)))) (uA A 5 ((A 5).set x1.toInt.toNat x2)) L)) rfl rfl rfl (hz_s5 _) (fun _ => ?_)
    refine w_n 4 (pc1 := 45) (ls1 := [some (.ref 3), some (.int x1), some (.int x2)]) (st1 := [.int x1, .int x2, .ref 4]) (hp1 := (hz (uF F 3 1 ((F 3 1) ||| ((1 : Int32) <<< (x1 &&& 31)))) (uA A 5 ((A 5).set x1.toInt.toNat x2)) L)) rfl ?_
    refine w_as (k := 4) (l := (A 4)) (hp1 := (hz (uF F 3 1 ((F 3 1) ||| ((1 : Int32) <<< (x1 &&& 31)))) (uA (uA A 5 ((A 5).set x1.toInt.toNat x2)) 4 ((A 4).set x2.toInt.toNat x1)) L)) rfl rfl rfl (hz_s4 _) (fun _ => ?_)
    refine w_n 4 (pc1 := 52) (ls1 := [some (.ref 3), some (.int x1), some (.int x2)]) (st1 := [.int 0, .int x1, .ref 9]) (hp1 := (hz (uF F 3 1 ((F 3 1) ||| ((1 : Int32) <<< (x1 &&& 31)))) (uA (uA A 5 ((A 5).set x1.toInt.toNat x2)) 4 ((A 4).set x2.toInt.toNat x1)) L)) rfl ?_
    refine w_as (k := 9) (l := (A 9)) (hp1 := (hz (uF F 3 1 ((F 3 1) ||| ((1 : Int32) <<< (x1 &&& 31)))) (uA (uA (uA A 5 ((A 5).set x1.toInt.toNat x2)) 4 ((A 4).set x2.toInt.toNat x1)) 9 ((A 9).set x1.toInt.toNat 0)) L)) rfl rfl rfl (hz_s9 _) (fun _ => ?_)
    refine w_n 4 (pc1 := 59) (ls1 := [some (.ref 3), some (.int x1), some (.int x2)]) (st1 := [.int 0, .int x1, .ref 10]) (hp1 := (hz (uF F 3 1 ((F 3 1) ||| ((1 : Int32) <<< (x1 &&& 31)))) (uA (uA (uA A 5 ((A 5).set x1.toInt.toNat x2)) 4 ((A 4).set x2.toInt.toNat x1)) 9 ((A 9).set x1.toInt.toNat 0)) L)) rfl ?_
    refine w_as (k := 10) (l := (A 10)) (hp1 := (hz (uF F 3 1 ((F 3 1) ||| ((1 : Int32) <<< (x1 &&& 31)))) (uA (uA (uA (uA A 5 ((A 5).set x1.toInt.toNat x2)) 4 ((A 4).set x2.toInt.toNat x1)) 9 ((A 9).set x1.toInt.toNat 0)) 10 ((A 10).set x1.toInt.toNat 0)) L)) rfl rfl rfl (hz_s10 _) (fun _ => ?_)
    refine w_n 4 (pc1 := 66) (ls1 := [some (.ref 3), some (.int x1), some (.int x2)]) (st1 := [.long 0, .int x1, .ref 11]) (hp1 := (hz (uF F 3 1 ((F 3 1) ||| ((1 : Int32) <<< (x1 &&& 31)))) (uA (uA (uA (uA A 5 ((A 5).set x1.toInt.toNat x2)) 4 ((A 4).set x2.toInt.toNat x1)) 9 ((A 9).set x1.toInt.toNat 0)) 10 ((A 10).set x1.toInt.toNat 0)) L)) rfl ?_
    refine w_ls (k := 11) (l := (L 11)) (hp1 := (hz (uF F 3 1 ((F 3 1) ||| ((1 : Int32) <<< (x1 &&& 31)))) (uA (uA (uA (uA A 5 ((A 5).set x1.toInt.toNat x2)) 4 ((A 4).set x2.toInt.toNat x1)) 9 ((A 9).set x1.toInt.toNat 0)) 10 ((A 10).set x1.toInt.toNat 0)) (uL L 11 ((L 11).set x1.toInt.toNat 0)))) rfl rfl rfl (hz_s11 _) (fun _ => ?_)
    subst T
    exact w_r rfl rfl (cvQ rfl (funext fun q => if k0 : q = 4 then by subst k0; exact Eq.trans (b := ((A 4).set x2.toInt.toNat x1)) rfl rfl else if k1 : q = 5 then by subst k1; exact Eq.trans (b := ((A 5).set x1.toInt.toNat x2)) rfl rfl else if k2 : q = 9 then by subst k2; exact Eq.trans (b := ((A 9).set x1.toInt.toNat 0)) rfl rfl else if k3 : q = 10 then by subst k3; exact Eq.trans (b := ((A 10).set x1.toInt.toNat 0)) rfl rfl else by unfold uA; simp only [nb1 k0, nb1 k1, nb1 k2, nb1 k3, cond_false]) rfl K)
  · have h1 : ¬ G12 = 0 := h
    rw [if_neg h1] at hE
    refine w_n 5 (pc1 := 17) (ls1 := [some (.ref 3), some (.int x1), some (.int x2)]) (st1 := [.int x1, .ref 5, .ref 4]) (hp1 := (hz F A L)) rfl ?_
    refine w_al (k := 5) (l := (A 5)) rfl rfl rfl (fun _ => ?_)
    refine w_n 1 (pc1 := 19) (ls1 := [some (.ref 3), some (.int x1), some (.int x2)]) (st1 := [.int (-1), .int ((A 5).getD x1.toInt.toNat 0), .ref 4]) (hp1 := (hz F A L)) rfl ?_
    refine w_as (k := 4) (l := (A 4)) (hp1 := (hz F (uA A 4 ((A 4).set ((A 5).getD x1.toInt.toNat 0).toInt.toNat (-1))) L)) rfl rfl rfl (hz_s4 _) (fun _ => ?_)
    refine w_n 7 (pc1 := 29) (ls1 := [some (.ref 3), some (.int x1), some (.int x2)]) (st1 := [.int ((F 3 1) ||| ((1 : Int32) <<< (x1 &&& 31))), .ref 3]) (hp1 := (hz F (uA A 4 ((A 4).set ((A 5).getD x1.toInt.toNat 0).toInt.toNat (-1))) L)) rfl ?_
    refine w_pf (k := 3) (fs := hz_f3 F) (hp1 := (hz (uF F 3 1 ((F 3 1) ||| ((1 : Int32) <<< (x1 &&& 31)))) (uA A 4 ((A 4).set ((A 5).getD x1.toInt.toNat 0).toInt.toNat (-1))) L)) rfl rfl rfl (hz_p3_1 _) ?_
    refine w_n 4 (pc1 := 38) (ls1 := [some (.ref 3), some (.int x1), some (.int x2)]) (st1 := [.int x2, .int x1, .ref 5]) (hp1 := (hz (uF F 3 1 ((F 3 1) ||| ((1 : Int32) <<< (x1 &&& 31)))) (uA A 4 ((A 4).set ((A 5).getD x1.toInt.toNat 0).toInt.toNat (-1))) L)) rfl ?_
    refine w_as (k := 5) (l := (A 5)) (hp1 := (hz (uF F 3 1 ((F 3 1) ||| ((1 : Int32) <<< (x1 &&& 31)))) (uA (uA A 4 ((A 4).set ((A 5).getD x1.toInt.toNat 0).toInt.toNat (-1))) 5 ((A 5).set x1.toInt.toNat x2)) L)) rfl rfl rfl (hz_s5 _) (fun _ => ?_)
    refine w_n 4 (pc1 := 45) (ls1 := [some (.ref 3), some (.int x1), some (.int x2)]) (st1 := [.int x1, .int x2, .ref 4]) (hp1 := (hz (uF F 3 1 ((F 3 1) ||| ((1 : Int32) <<< (x1 &&& 31)))) (uA (uA A 4 ((A 4).set ((A 5).getD x1.toInt.toNat 0).toInt.toNat (-1))) 5 ((A 5).set x1.toInt.toNat x2)) L)) rfl ?_
    refine w_as (k := 4) (l := ((A 4).set ((A 5).getD x1.toInt.toNat 0).toInt.toNat (-1))) (hp1 := (hz (uF F 3 1 ((F 3 1) ||| ((1 : Int32) <<< (x1 &&& 31)))) (uA (uA (uA A 4 ((A 4).set ((A 5).getD x1.toInt.toNat 0).toInt.toNat (-1))) 5 ((A 5).set x1.toInt.toNat x2)) 4 (((A 4).set ((A 5).getD x1.toInt.toNat 0).toInt.toNat (-1)).set x2.toInt.toNat x1)) L)) rfl rfl rfl (hz_s4 _) (fun _ => ?_)
    refine w_n 4 (pc1 := 52) (ls1 := [some (.ref 3), some (.int x1), some (.int x2)]) (st1 := [.int 0, .int x1, .ref 9]) (hp1 := (hz (uF F 3 1 ((F 3 1) ||| ((1 : Int32) <<< (x1 &&& 31)))) (uA (uA (uA A 4 ((A 4).set ((A 5).getD x1.toInt.toNat 0).toInt.toNat (-1))) 5 ((A 5).set x1.toInt.toNat x2)) 4 (((A 4).set ((A 5).getD x1.toInt.toNat 0).toInt.toNat (-1)).set x2.toInt.toNat x1)) L)) rfl ?_
    refine w_as (k := 9) (l := (A 9)) (hp1 := (hz (uF F 3 1 ((F 3 1) ||| ((1 : Int32) <<< (x1 &&& 31)))) (uA (uA (uA (uA A 4 ((A 4).set ((A 5).getD x1.toInt.toNat 0).toInt.toNat (-1))) 5 ((A 5).set x1.toInt.toNat x2)) 4 (((A 4).set ((A 5).getD x1.toInt.toNat 0).toInt.toNat (-1)).set x2.toInt.toNat x1)) 9 ((A 9).set x1.toInt.toNat 0)) L)) rfl rfl rfl (hz_s9 _) (fun _ => ?_)
    refine w_n 4 (pc1 := 59) (ls1 := [some (.ref 3), some (.int x1), some (.int x2)]) (st1 := [.int 0, .int x1, .ref 10]) (hp1 := (hz (uF F 3 1 ((F 3 1) ||| ((1 : Int32) <<< (x1 &&& 31)))) (uA (uA (uA (uA A 4 ((A 4).set ((A 5).getD x1.toInt.toNat 0).toInt.toNat (-1))) 5 ((A 5).set x1.toInt.toNat x2)) 4 (((A 4).set ((A 5).getD x1.toInt.toNat 0).toInt.toNat (-1)).set x2.toInt.toNat x1)) 9 ((A 9).set x1.toInt.toNat 0)) L)) rfl ?_
    refine w_as (k := 10) (l := (A 10)) (hp1 := (hz (uF F 3 1 ((F 3 1) ||| ((1 : Int32) <<< (x1 &&& 31)))) (uA (uA (uA (uA (uA A 4 ((A 4).set ((A 5).getD x1.toInt.toNat 0).toInt.toNat (-1))) 5 ((A 5).set x1.toInt.toNat x2)) 4 (((A 4).set ((A 5).getD x1.toInt.toNat 0).toInt.toNat (-1)).set x2.toInt.toNat x1)) 9 ((A 9).set x1.toInt.toNat 0)) 10 ((A 10).set x1.toInt.toNat 0)) L)) rfl rfl rfl (hz_s10 _) (fun _ => ?_)
    refine w_n 4 (pc1 := 66) (ls1 := [some (.ref 3), some (.int x1), some (.int x2)]) (st1 := [.long 0, .int x1, .ref 11]) (hp1 := (hz (uF F 3 1 ((F 3 1) ||| ((1 : Int32) <<< (x1 &&& 31)))) (uA (uA (uA (uA (uA A 4 ((A 4).set ((A 5).getD x1.toInt.toNat 0).toInt.toNat (-1))) 5 ((A 5).set x1.toInt.toNat x2)) 4 (((A 4).set ((A 5).getD x1.toInt.toNat 0).toInt.toNat (-1)).set x2.toInt.toNat x1)) 9 ((A 9).set x1.toInt.toNat 0)) 10 ((A 10).set x1.toInt.toNat 0)) L)) rfl ?_
    refine w_ls (k := 11) (l := (L 11)) (hp1 := (hz (uF F 3 1 ((F 3 1) ||| ((1 : Int32) <<< (x1 &&& 31)))) (uA (uA (uA (uA (uA A 4 ((A 4).set ((A 5).getD x1.toInt.toNat 0).toInt.toNat (-1))) 5 ((A 5).set x1.toInt.toNat x2)) 4 (((A 4).set ((A 5).getD x1.toInt.toNat 0).toInt.toNat (-1)).set x2.toInt.toNat x1)) 9 ((A 9).set x1.toInt.toNat 0)) 10 ((A 10).set x1.toInt.toNat 0)) (uL L 11 ((L 11).set x1.toInt.toNat 0)))) rfl rfl rfl (hz_s11 _) (fun _ => ?_)
    subst T
    exact w_r rfl rfl (cvQ rfl (funext fun q => if k0 : q = 4 then by subst k0; exact Eq.trans (b := (((A 4).set ((A 5).getD x1.toInt.toNat 0).toInt.toNat (-1)).set x2.toInt.toNat x1)) rfl rfl else if k1 : q = 5 then by subst k1; exact Eq.trans (b := ((A 5).set x1.toInt.toNat x2)) rfl rfl else if k2 : q = 9 then by subst k2; exact Eq.trans (b := ((A 9).set x1.toInt.toNat 0)) rfl rfl else if k3 : q = 10 then by subst k3; exact Eq.trans (b := ((A 10).set x1.toInt.toNat 0)) rfl rfl else by unfold uA; simp only [nb1 k0, nb1 k1, nb1 k2, nb1 k3, cond_false]) rfl K)
noncomputable def kc_guest (f3_1 : Int32) (a4 : List Int32) (a5 : List Int32) (a6 : List Int32) (a7 : List Int32) (a8 : List Int32) (a9 : List Int32) (a10 : List Int32) (l11 : List Int64) (x1 : Int32) (x2 : Int32) (x3 : Int32) (x4 : Int32) (x5 : Int32) : Int32 × Int32 × List Int32 × List Int32 × List Int32 × List Int32 × List Int32 × List Int32 × List Int32 × List Int64 := (if (kc_within x1 0 11) = 0 then (0, f3_1, a4, a5, a6, a7, a8, a9, a10, l11) else (if (kc_within x2 0 11) = 0 then (0, f3_1, a4, a5, a6, a7, a8, a9, a10, l11) else (if (kc_within x3 0 20) = 0 then (0, f3_1, a4, a5, a6, a7, a8, a9, a10, l11) else (if (kc_within x4 0 99) = 0 then (0, f3_1, a4, a5, a6, a7, a8, a9, a10, l11) else (if (kc_within x5 0 9) = 0 then (0, f3_1, a4, a5, a6, a7, a8, a9, a10, l11) else (if (a4.getD x2.toInt.toNat 0) = (-1) then (1, (kt_place f3_1 a4 a5 a9 a10 l11 x1 x2).1, (kt_place f3_1 a4 a5 a9 a10 l11 x1 x2).2.1, (kt_place f3_1 a4 a5 a9 a10 l11 x1 x2).2.2.1, (a6.set x1.toInt.toNat x3), (a7.set x1.toInt.toNat x4), (a8.set x1.toInt.toNat x5), (kt_place f3_1 a4 a5 a9 a10 l11 x1 x2).2.2.2.1, (kt_place f3_1 a4 a5 a9 a10 l11 x1 x2).2.2.2.2.1, (kt_place f3_1 a4 a5 a9 a10 l11 x1 x2).2.2.2.2.2) else (if (a4.getD x2.toInt.toNat 0) = x1 then (1, (kt_place f3_1 a4 a5 a9 a10 l11 x1 x2).1, (kt_place f3_1 a4 a5 a9 a10 l11 x1 x2).2.1, (kt_place f3_1 a4 a5 a9 a10 l11 x1 x2).2.2.1, (a6.set x1.toInt.toNat x3), (a7.set x1.toInt.toNat x4), (a8.set x1.toInt.toNat x5), (kt_place f3_1 a4 a5 a9 a10 l11 x1 x2).2.2.2.1, (kt_place f3_1 a4 a5 a9 a10 l11 x1 x2).2.2.2.2.1, (kt_place f3_1 a4 a5 a9 a10 l11 x1 x2).2.2.2.2.2) else (0, f3_1, a4, a5, a6, a7, a8, a9, a10, l11))))))))
theorem t_kc_guest {f D : Nat} {F : Nat → Nat → Int32} {A : Nat → List Int32} {L : Nat → List Int64} {Q : Option Value → sm_H → Prop} {x1 : Int32} {x2 : Int32} {x3 : Int32} {x4 : Int32} {x5 : Int32} (K : Q (some (.int ((kc_guest (F 3 1) (A 4) (A 5) (A 6) (A 7) (A 8) (A 9) (A 10) (L 11) x1 x2 x3 x4 x5).1))) (hz (uF F 3 1 ((kc_guest (F 3 1) (A 4) (A 5) (A 6) (A 7) (A 8) (A 9) (A 10) (L 11) x1 x2 x3 x4 x5).2.1)) (uA (uA (uA (uA (uA (uA (uA A 4 ((kc_guest (F 3 1) (A 4) (A 5) (A 6) (A 7) (A 8) (A 9) (A 10) (L 11) x1 x2 x3 x4 x5).2.2.1)) 5 ((kc_guest (F 3 1) (A 4) (A 5) (A 6) (A 7) (A 8) (A 9) (A 10) (L 11) x1 x2 x3 x4 x5).2.2.2.1)) 6 ((kc_guest (F 3 1) (A 4) (A 5) (A 6) (A 7) (A 8) (A 9) (A 10) (L 11) x1 x2 x3 x4 x5).2.2.2.2.1)) 7 ((kc_guest (F 3 1) (A 4) (A 5) (A 6) (A 7) (A 8) (A 9) (A 10) (L 11) x1 x2 x3 x4 x5).2.2.2.2.2.1)) 8 ((kc_guest (F 3 1) (A 4) (A 5) (A 6) (A 7) (A 8) (A 9) (A 10) (L 11) x1 x2 x3 x4 x5).2.2.2.2.2.2.1)) 9 ((kc_guest (F 3 1) (A 4) (A 5) (A 6) (A 7) (A 8) (A 9) (A 10) (L 11) x1 x2 x3 x4 x5).2.2.2.2.2.2.2.1)) 10 ((kc_guest (F 3 1) (A 4) (A 5) (A 6) (A 7) (A 8) (A 9) (A 10) (L 11) x1 x2 x3 x4 x5).2.2.2.2.2.2.2.2.1)) (uL L 11 ((kc_guest (F 3 1) (A 4) (A 5) (A 6) (A 7) (A 8) (A 9) (A 10) (L 11) x1 x2 x3 x4 x5).2.2.2.2.2.2.2.2.2)))) : wl_M f D 12 [.ref 0, .int x1, .int x2, .int x3, .int x4, .int x5] (hz F A L) Q := by
  generalize hT : (kc_guest (F 3 1) (A 4) (A 5) (A 6) (A 7) (A 8) (A 9) (A 10) (L 11) x1 x2 x3 x4 x5) = T at K
  have hE : T = (if (kc_within x1 0 11) = 0 then (0, (F 3 1), (A 4), (A 5), (A 6), (A 7), (A 8), (A 9), (A 10), (L 11)) else (if (kc_within x2 0 11) = 0 then (0, (F 3 1), (A 4), (A 5), (A 6), (A 7), (A 8), (A 9), (A 10), (L 11)) else (if (kc_within x3 0 20) = 0 then (0, (F 3 1), (A 4), (A 5), (A 6), (A 7), (A 8), (A 9), (A 10), (L 11)) else (if (kc_within x4 0 99) = 0 then (0, (F 3 1), (A 4), (A 5), (A 6), (A 7), (A 8), (A 9), (A 10), (L 11)) else (if (kc_within x5 0 9) = 0 then (0, (F 3 1), (A 4), (A 5), (A 6), (A 7), (A 8), (A 9), (A 10), (L 11)) else (if ((A 4).getD x2.toInt.toNat 0) = (-1) then (1, (kt_place (F 3 1) (A 4) (A 5) (A 9) (A 10) (L 11) x1 x2).1, (kt_place (F 3 1) (A 4) (A 5) (A 9) (A 10) (L 11) x1 x2).2.1, (kt_place (F 3 1) (A 4) (A 5) (A 9) (A 10) (L 11) x1 x2).2.2.1, ((A 6).set x1.toInt.toNat x3), ((A 7).set x1.toInt.toNat x4), ((A 8).set x1.toInt.toNat x5), (kt_place (F 3 1) (A 4) (A 5) (A 9) (A 10) (L 11) x1 x2).2.2.2.1, (kt_place (F 3 1) (A 4) (A 5) (A 9) (A 10) (L 11) x1 x2).2.2.2.2.1, (kt_place (F 3 1) (A 4) (A 5) (A 9) (A 10) (L 11) x1 x2).2.2.2.2.2) else (if ((A 4).getD x2.toInt.toNat 0) = x1 then (1, (kt_place (F 3 1) (A 4) (A 5) (A 9) (A 10) (L 11) x1 x2).1, (kt_place (F 3 1) (A 4) (A 5) (A 9) (A 10) (L 11) x1 x2).2.1, (kt_place (F 3 1) (A 4) (A 5) (A 9) (A 10) (L 11) x1 x2).2.2.1, ((A 6).set x1.toInt.toNat x3), ((A 7).set x1.toInt.toNat x4), ((A 8).set x1.toInt.toNat x5), (kt_place (F 3 1) (A 4) (A 5) (A 9) (A 10) (L 11) x1 x2).2.2.2.1, (kt_place (F 3 1) (A 4) (A 5) (A 9) (A 10) (L 11) x1 x2).2.2.2.2.1, (kt_place (F 3 1) (A 4) (A 5) (A 9) (A 10) (L 11) x1 x2).2.2.2.2.2) else (0, (F 3 1), (A 4), (A 5), (A 6), (A 7), (A 8), (A 9), (A 10), (L 11))))))))) := hT.symm
  clear hT
  refine w_m (E := mm12) rfl ?_
  show wl_E f f (D - 1) mm12.2.2.2.2.2.2.2.2 0 [some (.ref 0), some (.int x1), some (.int x2), some (.int x3), some (.int x4), some (.int x5), none] [] (hz F A L) Q
  refine w_n 3 (pc1 := 4) (ls1 := [some (.ref 0), some (.int x1), some (.int x2), some (.int x3), some (.int x4), some (.int x5), none]) (st1 := [.int 11, .int 0, .int x1]) (hp1 := (hz F A L)) rfl ?_
  refine w_c rfl rfl (t_kc_within ?_)
  show wl_E f _ _ mm12.2.2.2.2.2.2.2.2 7 [some (.ref 0), some (.int x1), some (.int x2), some (.int x3), some (.int x4), some (.int x5), none] [.int (kc_within x1 0 11)] (hz F A L) _
  generalize hG7 : (kc_within x1 0 11) = G7 at hE ⊢
  refine w_zeq (p3 := 10) rfl rfl (fun h => ?_) (fun h => ?_)
  · have h1 : G7 = 0 := h
    rw [if_pos h1] at hE
    refine w_n 1 (pc1 := 21) (ls1 := [some (.ref 0), some (.int x1), some (.int x2), some (.int x3), some (.int x4), some (.int x5), none]) (st1 := [.int 0]) (hp1 := (hz F A L)) rfl ?_
    subst T
    exact w_ri rfl (cvQ (funext fun q => funext fun z => if k0 : q = 3 ∧ z = 1 then by obtain ⟨w1, w2⟩ := k0; subst w1; subst w2; exact Eq.trans (b := (F 3 1)) rfl rfl else by unfold uF; simp only [nb2 k0, cond_false]) (funext fun q => if k0 : q = 4 then by subst k0; exact Eq.trans (b := (A 4)) rfl rfl else if k1 : q = 5 then by subst k1; exact Eq.trans (b := (A 5)) rfl rfl else if k2 : q = 6 then by subst k2; exact Eq.trans (b := (A 6)) rfl rfl else if k3 : q = 7 then by subst k3; exact Eq.trans (b := (A 7)) rfl rfl else if k4 : q = 8 then by subst k4; exact Eq.trans (b := (A 8)) rfl rfl else if k5 : q = 9 then by subst k5; exact Eq.trans (b := (A 9)) rfl rfl else if k6 : q = 10 then by subst k6; exact Eq.trans (b := (A 10)) rfl rfl else by unfold uA; simp only [nb1 k0, nb1 k1, nb1 k2, nb1 k3, nb1 k4, nb1 k5, nb1 k6, cond_false]) (funext fun q => if k0 : q = 11 then by subst k0; exact Eq.trans (b := (L 11)) rfl rfl else by unfold uL; simp only [nb1 k0, cond_false]) K)
  · have h1 : ¬ G7 = 0 := h
    rw [if_neg h1] at hE
    refine w_n 3 (pc1 := 14) (ls1 := [some (.ref 0), some (.int x1), some (.int x2), some (.int x3), some (.int x4), some (.int x5), none]) (st1 := [.int 11, .int 0, .int x2]) (hp1 := (hz F A L)) rfl ?_
    refine w_c rfl rfl (t_kc_within ?_)
    show wl_E f _ _ mm12.2.2.2.2.2.2.2.2 17 [some (.ref 0), some (.int x1), some (.int x2), some (.int x3), some (.int x4), some (.int x5), none] [.int (kc_within x2 0 11)] (hz F A L) _
    generalize hG8 : (kc_within x2 0 11) = G8 at hE ⊢
    refine w_zne (p3 := 20) rfl rfl (fun h => ?_) (fun h => ?_)
    · have h2 : ¬ G8 = 0 := h
      rw [if_neg h2] at hE
      refine w_n 3 (pc1 := 26) (ls1 := [some (.ref 0), some (.int x1), some (.int x2), some (.int x3), some (.int x4), some (.int x5), none]) (st1 := [.int 20, .int 0, .int x3]) (hp1 := (hz F A L)) rfl ?_
      refine w_c rfl rfl (t_kc_within ?_)
      show wl_E f _ _ mm12.2.2.2.2.2.2.2.2 29 [some (.ref 0), some (.int x1), some (.int x2), some (.int x3), some (.int x4), some (.int x5), none] [.int (kc_within x3 0 20)] (hz F A L) _
      generalize hG9 : (kc_within x3 0 20) = G9 at hE ⊢
      refine w_zeq (p3 := 32) rfl rfl (fun h => ?_) (fun h => ?_)
      · have h3 : G9 = 0 := h
        rw [if_pos h3] at hE
        refine w_n 1 (pc1 := 55) (ls1 := [some (.ref 0), some (.int x1), some (.int x2), some (.int x3), some (.int x4), some (.int x5), none]) (st1 := [.int 0]) (hp1 := (hz F A L)) rfl ?_
        subst T
        exact w_ri rfl (cvQ (funext fun q => funext fun z => if k0 : q = 3 ∧ z = 1 then by obtain ⟨w1, w2⟩ := k0; subst w1; subst w2; exact Eq.trans (b := (F 3 1)) rfl rfl else by unfold uF; simp only [nb2 k0, cond_false]) (funext fun q => if k0 : q = 4 then by subst k0; exact Eq.trans (b := (A 4)) rfl rfl else if k1 : q = 5 then by subst k1; exact Eq.trans (b := (A 5)) rfl rfl else if k2 : q = 6 then by subst k2; exact Eq.trans (b := (A 6)) rfl rfl else if k3 : q = 7 then by subst k3; exact Eq.trans (b := (A 7)) rfl rfl else if k4 : q = 8 then by subst k4; exact Eq.trans (b := (A 8)) rfl rfl else if k5 : q = 9 then by subst k5; exact Eq.trans (b := (A 9)) rfl rfl else if k6 : q = 10 then by subst k6; exact Eq.trans (b := (A 10)) rfl rfl else by unfold uA; simp only [nb1 k0, nb1 k1, nb1 k2, nb1 k3, nb1 k4, nb1 k5, nb1 k6, cond_false]) (funext fun q => if k0 : q = 11 then by subst k0; exact Eq.trans (b := (L 11)) rfl rfl else by unfold uL; simp only [nb1 k0, cond_false]) K)
      · have h3 : ¬ G9 = 0 := h
        rw [if_neg h3] at hE
        refine w_n 3 (pc1 := 37) (ls1 := [some (.ref 0), some (.int x1), some (.int x2), some (.int x3), some (.int x4), some (.int x5), none]) (st1 := [.int 99, .int 0, .int x4]) (hp1 := (hz F A L)) rfl ?_
        refine w_c rfl rfl (t_kc_within ?_)
        show wl_E f _ _ mm12.2.2.2.2.2.2.2.2 40 [some (.ref 0), some (.int x1), some (.int x2), some (.int x3), some (.int x4), some (.int x5), none] [.int (kc_within x4 0 99)] (hz F A L) _
        generalize hG10 : (kc_within x4 0 99) = G10 at hE ⊢
        refine w_zeq (p3 := 43) rfl rfl (fun h => ?_) (fun h => ?_)
        · have h4 : G10 = 0 := h
          rw [if_pos h4] at hE
          refine w_n 1 (pc1 := 55) (ls1 := [some (.ref 0), some (.int x1), some (.int x2), some (.int x3), some (.int x4), some (.int x5), none]) (st1 := [.int 0]) (hp1 := (hz F A L)) rfl ?_
          subst T
          exact w_ri rfl (cvQ (funext fun q => funext fun z => if k0 : q = 3 ∧ z = 1 then by obtain ⟨w1, w2⟩ := k0; subst w1; subst w2; exact Eq.trans (b := (F 3 1)) rfl rfl else by unfold uF; simp only [nb2 k0, cond_false]) (funext fun q => if k0 : q = 4 then by subst k0; exact Eq.trans (b := (A 4)) rfl rfl else if k1 : q = 5 then by subst k1; exact Eq.trans (b := (A 5)) rfl rfl else if k2 : q = 6 then by subst k2; exact Eq.trans (b := (A 6)) rfl rfl else if k3 : q = 7 then by subst k3; exact Eq.trans (b := (A 7)) rfl rfl else if k4 : q = 8 then by subst k4; exact Eq.trans (b := (A 8)) rfl rfl else if k5 : q = 9 then by subst k5; exact Eq.trans (b := (A 9)) rfl rfl else if k6 : q = 10 then by subst k6; exact Eq.trans (b := (A 10)) rfl rfl else by unfold uA; simp only [nb1 k0, nb1 k1, nb1 k2, nb1 k3, nb1 k4, nb1 k5, nb1 k6, cond_false]) (funext fun q => if k0 : q = 11 then by subst k0; exact Eq.trans (b := (L 11)) rfl rfl else by unfold uL; simp only [nb1 k0, cond_false]) K)
        · have h4 : ¬ G10 = 0 := h
          rw [if_neg h4] at hE
          refine w_n 3 (pc1 := 48) (ls1 := [some (.ref 0), some (.int x1), some (.int x2), some (.int x3), some (.int x4), some (.int x5), none]) (st1 := [.int 9, .int 0, .int x5]) (hp1 := (hz F A L)) rfl ?_
          refine w_c rfl rfl (t_kc_within ?_)
          show wl_E f _ _ mm12.2.2.2.2.2.2.2.2 51 [some (.ref 0), some (.int x1), some (.int x2), some (.int x3), some (.int x4), some (.int x5), none] [.int (kc_within x5 0 9)] (hz F A L) _
          generalize hG11 : (kc_within x5 0 9) = G11 at hE ⊢
          refine w_zne (p3 := 54) rfl rfl (fun h => ?_) (fun h => ?_)
          · have h5 : ¬ G11 = 0 := h
            rw [if_neg h5] at hE
            refine w_n 4 (pc1 := 64) (ls1 := [some (.ref 0), some (.int x1), some (.int x2), some (.int x3), some (.int x4), some (.int x5), none]) (st1 := [.int x2, .ref 4]) (hp1 := (hz F A L)) rfl ?_
            refine w_al (k := 4) (l := (A 4)) rfl rfl rfl (fun _ => ?_)
            refine w_n 3 (pc1 := 70) (ls1 := [some (.ref 0), some (.int x1), some (.int x2), some (.int x3), some (.int x4), some (.int x5), some (.int ((A 4).getD x2.toInt.toNat 0))]) (st1 := [.int (-1), .int ((A 4).getD x2.toInt.toNat 0)]) (hp1 := (hz F A L)) rfl ?_
            refine w_eq (p3 := 73) rfl rfl (fun h => ?_) (fun h => ?_)
            · have h6 : ((A 4).getD x2.toInt.toNat 0) = (-1) := h
              rw [if_pos h6] at hE
              refine w_n 4 (pc1 := 87) (ls1 := [some (.ref 0), some (.int x1), some (.int x2), some (.int x3), some (.int x4), some (.int x5), some (.int ((A 4).getD x2.toInt.toNat 0))]) (st1 := [.int x2, .int x1, .ref 3]) (hp1 := (hz F A L)) rfl ?_
              refine w_c rfl rfl (t_kt_place ?_)
              show wl_E f _ _ mm12.2.2.2.2.2.2.2.2 90 [some (.ref 0), some (.int x1), some (.int x2), some (.int x3), some (.int x4), some (.int x5), some (.int ((A 4).getD x2.toInt.toNat 0))] [] (hz (uF F 3 1 (kt_place (F 3 1) (A 4) (A 5) (A 9) (A 10) (L 11) x1 x2).1) (uA (uA (uA (uA A 4 (kt_place (F 3 1) (A 4) (A 5) (A 9) (A 10) (L 11) x1 x2).2.1) 5 (kt_place (F 3 1) (A 4) (A 5) (A 9) (A 10) (L 11) x1 x2).2.2.1) 9 (kt_place (F 3 1) (A 4) (A 5) (A 9) (A 10) (L 11) x1 x2).2.2.2.1) 10 (kt_place (F 3 1) (A 4) (A 5) (A 9) (A 10) (L 11) x1 x2).2.2.2.2.1) (uL L 11 (kt_place (F 3 1) (A 4) (A 5) (A 9) (A 10) (L 11) x1 x2).2.2.2.2.2)) _
              generalize hG13 : (kt_place (F 3 1) (A 4) (A 5) (A 9) (A 10) (L 11) x1 x2) = G13 at hE ⊢
              refine w_n 5 (pc1 := 99) (ls1 := [some (.ref 0), some (.int x1), some (.int x2), some (.int x3), some (.int x4), some (.int x5), some (.int ((A 4).getD x2.toInt.toNat 0))]) (st1 := [.int x3, .int x1, .ref 6]) (hp1 := (hz (uF F 3 1 G13.1) (uA (uA (uA (uA A 4 G13.2.1) 5 G13.2.2.1) 9 G13.2.2.2.1) 10 G13.2.2.2.2.1) (uL L 11 G13.2.2.2.2.2))) rfl ?_
              refine w_as (k := 6) (l := (A 6)) (hp1 := (hz (uF F 3 1 G13.1) (uA (uA (uA (uA (uA A 4 G13.2.1) 5 G13.2.2.1) 9 G13.2.2.2.1) 10 G13.2.2.2.2.1) 6 ((A 6).set x1.toInt.toNat x3)) (uL L 11 G13.2.2.2.2.2))) rfl rfl rfl (hz_s6 _) (fun _ => ?_)
              refine w_n 5 (pc1 := 110) (ls1 := [some (.ref 0), some (.int x1), some (.int x2), some (.int x3), some (.int x4), some (.int x5), some (.int ((A 4).getD x2.toInt.toNat 0))]) (st1 := [.int x4, .int x1, .ref 7]) (hp1 := (hz (uF F 3 1 G13.1) (uA (uA (uA (uA (uA A 4 G13.2.1) 5 G13.2.2.1) 9 G13.2.2.2.1) 10 G13.2.2.2.2.1) 6 ((A 6).set x1.toInt.toNat x3)) (uL L 11 G13.2.2.2.2.2))) rfl ?_
              refine w_as (k := 7) (l := (A 7)) (hp1 := (hz (uF F 3 1 G13.1) (uA (uA (uA (uA (uA (uA A 4 G13.2.1) 5 G13.2.2.1) 9 G13.2.2.2.1) 10 G13.2.2.2.2.1) 6 ((A 6).set x1.toInt.toNat x3)) 7 ((A 7).set x1.toInt.toNat x4)) (uL L 11 G13.2.2.2.2.2))) rfl rfl rfl (hz_s7 _) (fun _ => ?_)
              refine w_n 5 (pc1 := 121) (ls1 := [some (.ref 0), some (.int x1), some (.int x2), some (.int x3), some (.int x4), some (.int x5), some (.int ((A 4).getD x2.toInt.toNat 0))]) (st1 := [.int x5, .int x1, .ref 8]) (hp1 := (hz (uF F 3 1 G13.1) (uA (uA (uA (uA (uA (uA A 4 G13.2.1) 5 G13.2.2.1) 9 G13.2.2.2.1) 10 G13.2.2.2.2.1) 6 ((A 6).set x1.toInt.toNat x3)) 7 ((A 7).set x1.toInt.toNat x4)) (uL L 11 G13.2.2.2.2.2))) rfl ?_
              refine w_as (k := 8) (l := (A 8)) (hp1 := (hz (uF F 3 1 G13.1) (uA (uA (uA (uA (uA (uA (uA A 4 G13.2.1) 5 G13.2.2.1) 9 G13.2.2.2.1) 10 G13.2.2.2.2.1) 6 ((A 6).set x1.toInt.toNat x3)) 7 ((A 7).set x1.toInt.toNat x4)) 8 ((A 8).set x1.toInt.toNat x5)) (uL L 11 G13.2.2.2.2.2))) rfl rfl rfl (hz_s8 _) (fun _ => ?_)
              refine w_n 1 (pc1 := 123) (ls1 := [some (.ref 0), some (.int x1), some (.int x2), some (.int x3), some (.int x4), some (.int x5), some (.int ((A 4).getD x2.toInt.toNat 0))]) (st1 := [.int 1]) (hp1 := (hz (uF F 3 1 G13.1) (uA (uA (uA (uA (uA (uA (uA A 4 G13.2.1) 5 G13.2.2.1) 9 G13.2.2.2.1) 10 G13.2.2.2.2.1) 6 ((A 6).set x1.toInt.toNat x3)) 7 ((A 7).set x1.toInt.toNat x4)) 8 ((A 8).set x1.toInt.toNat x5)) (uL L 11 G13.2.2.2.2.2))) rfl ?_
              subst T
              exact w_ri rfl (cvQ rfl (funext fun q => if k0 : q = 4 then by subst k0; exact Eq.trans (b := G13.2.1) rfl rfl else if k1 : q = 5 then by subst k1; exact Eq.trans (b := G13.2.2.1) rfl rfl else if k2 : q = 6 then by subst k2; exact Eq.trans (b := ((A 6).set x1.toInt.toNat x3)) rfl rfl else if k3 : q = 7 then by subst k3; exact Eq.trans (b := ((A 7).set x1.toInt.toNat x4)) rfl rfl else if k4 : q = 8 then by subst k4; exact Eq.trans (b := ((A 8).set x1.toInt.toNat x5)) rfl rfl else if k5 : q = 9 then by subst k5; exact Eq.trans (b := G13.2.2.2.1) rfl rfl else if k6 : q = 10 then by subst k6; exact Eq.trans (b := G13.2.2.2.2.1) rfl rfl else by unfold uA; simp only [nb1 k0, nb1 k1, nb1 k2, nb1 k3, nb1 k4, nb1 k5, nb1 k6, cond_false]) rfl K)
            · have h6 : ¬ ((A 4).getD x2.toInt.toNat 0) = (-1) := h
              rw [if_neg h6] at hE
              refine w_n 2 (pc1 := 76) (ls1 := [some (.ref 0), some (.int x1), some (.int x2), some (.int x3), some (.int x4), some (.int x5), some (.int ((A 4).getD x2.toInt.toNat 0))]) (st1 := [.int x1, .int ((A 4).getD x2.toInt.toNat 0)]) (hp1 := (hz F A L)) rfl ?_
              refine w_eq (p3 := 79) rfl rfl (fun h => ?_) (fun h => ?_)
              · have h7 : ((A 4).getD x2.toInt.toNat 0) = x1 := h
                rw [if_pos h7] at hE
                refine w_n 4 (pc1 := 87) (ls1 := [some (.ref 0), some (.int x1), some (.int x2), some (.int x3), some (.int x4), some (.int x5), some (.int ((A 4).getD x2.toInt.toNat 0))]) (st1 := [.int x2, .int x1, .ref 3]) (hp1 := (hz F A L)) rfl ?_
                refine w_c rfl rfl (t_kt_place ?_)
                show wl_E f _ _ mm12.2.2.2.2.2.2.2.2 90 [some (.ref 0), some (.int x1), some (.int x2), some (.int x3), some (.int x4), some (.int x5), some (.int ((A 4).getD x2.toInt.toNat 0))] [] (hz (uF F 3 1 (kt_place (F 3 1) (A 4) (A 5) (A 9) (A 10) (L 11) x1 x2).1) (uA (uA (uA (uA A 4 (kt_place (F 3 1) (A 4) (A 5) (A 9) (A 10) (L 11) x1 x2).2.1) 5 (kt_place (F 3 1) (A 4) (A 5) (A 9) (A 10) (L 11) x1 x2).2.2.1) 9 (kt_place (F 3 1) (A 4) (A 5) (A 9) (A 10) (L 11) x1 x2).2.2.2.1) 10 (kt_place (F 3 1) (A 4) (A 5) (A 9) (A 10) (L 11) x1 x2).2.2.2.2.1) (uL L 11 (kt_place (F 3 1) (A 4) (A 5) (A 9) (A 10) (L 11) x1 x2).2.2.2.2.2)) _
                generalize hG14 : (kt_place (F 3 1) (A 4) (A 5) (A 9) (A 10) (L 11) x1 x2) = G14 at hE ⊢
                refine w_n 5 (pc1 := 99) (ls1 := [some (.ref 0), some (.int x1), some (.int x2), some (.int x3), some (.int x4), some (.int x5), some (.int ((A 4).getD x2.toInt.toNat 0))]) (st1 := [.int x3, .int x1, .ref 6]) (hp1 := (hz (uF F 3 1 G14.1) (uA (uA (uA (uA A 4 G14.2.1) 5 G14.2.2.1) 9 G14.2.2.2.1) 10 G14.2.2.2.2.1) (uL L 11 G14.2.2.2.2.2))) rfl ?_
                refine w_as (k := 6) (l := (A 6)) (hp1 := (hz (uF F 3 1 G14.1) (uA (uA (uA (uA (uA A 4 G14.2.1) 5 G14.2.2.1) 9 G14.2.2.2.1) 10 G14.2.2.2.2.1) 6 ((A 6).set x1.toInt.toNat x3)) (uL L 11 G14.2.2.2.2.2))) rfl rfl rfl (hz_s6 _) (fun _ => ?_)
                refine w_n 5 (pc1 := 110) (ls1 := [some (.ref 0), some (.int x1), some (.int x2), some (.int x3), some (.int x4), some (.int x5), some (.int ((A 4).getD x2.toInt.toNat 0))]) (st1 := [.int x4, .int x1, .ref 7]) (hp1 := (hz (uF F 3 1 G14.1) (uA (uA (uA (uA (uA A 4 G14.2.1) 5 G14.2.2.1) 9 G14.2.2.2.1) 10 G14.2.2.2.2.1) 6 ((A 6).set x1.toInt.toNat x3)) (uL L 11 G14.2.2.2.2.2))) rfl ?_
                refine w_as (k := 7) (l := (A 7)) (hp1 := (hz (uF F 3 1 G14.1) (uA (uA (uA (uA (uA (uA A 4 G14.2.1) 5 G14.2.2.1) 9 G14.2.2.2.1) 10 G14.2.2.2.2.1) 6 ((A 6).set x1.toInt.toNat x3)) 7 ((A 7).set x1.toInt.toNat x4)) (uL L 11 G14.2.2.2.2.2))) rfl rfl rfl (hz_s7 _) (fun _ => ?_)
                refine w_n 5 (pc1 := 121) (ls1 := [some (.ref 0), some (.int x1), some (.int x2), some (.int x3), some (.int x4), some (.int x5), some (.int ((A 4).getD x2.toInt.toNat 0))]) (st1 := [.int x5, .int x1, .ref 8]) (hp1 := (hz (uF F 3 1 G14.1) (uA (uA (uA (uA (uA (uA A 4 G14.2.1) 5 G14.2.2.1) 9 G14.2.2.2.1) 10 G14.2.2.2.2.1) 6 ((A 6).set x1.toInt.toNat x3)) 7 ((A 7).set x1.toInt.toNat x4)) (uL L 11 G14.2.2.2.2.2))) rfl ?_
                refine w_as (k := 8) (l := (A 8)) (hp1 := (hz (uF F 3 1 G14.1) (uA (uA (uA (uA (uA (uA (uA A 4 G14.2.1) 5 G14.2.2.1) 9 G14.2.2.2.1) 10 G14.2.2.2.2.1) 6 ((A 6).set x1.toInt.toNat x3)) 7 ((A 7).set x1.toInt.toNat x4)) 8 ((A 8).set x1.toInt.toNat x5)) (uL L 11 G14.2.2.2.2.2))) rfl rfl rfl (hz_s8 _) (fun _ => ?_)
                refine w_n 1 (pc1 := 123) (ls1 := [some (.ref 0), some (.int x1), some (.int x2), some (.int x3), some (.int x4), some (.int x5), some (.int ((A 4).getD x2.toInt.toNat 0))]) (st1 := [.int 1]) (hp1 := (hz (uF F 3 1 G14.1) (uA (uA (uA (uA (uA (uA (uA A 4 G14.2.1) 5 G14.2.2.1) 9 G14.2.2.2.1) 10 G14.2.2.2.2.1) 6 ((A 6).set x1.toInt.toNat x3)) 7 ((A 7).set x1.toInt.toNat x4)) 8 ((A 8).set x1.toInt.toNat x5)) (uL L 11 G14.2.2.2.2.2))) rfl ?_
                subst T
                exact w_ri rfl (cvQ rfl (funext fun q => if k0 : q = 4 then by subst k0; exact Eq.trans (b := G14.2.1) rfl rfl else if k1 : q = 5 then by subst k1; exact Eq.trans (b := G14.2.2.1) rfl rfl else if k2 : q = 6 then by subst k2; exact Eq.trans (b := ((A 6).set x1.toInt.toNat x3)) rfl rfl else if k3 : q = 7 then by subst k3; exact Eq.trans (b := ((A 7).set x1.toInt.toNat x4)) rfl rfl else if k4 : q = 8 then by subst k4; exact Eq.trans (b := ((A 8).set x1.toInt.toNat x5)) rfl rfl else if k5 : q = 9 then by subst k5; exact Eq.trans (b := G14.2.2.2.1) rfl rfl else if k6 : q = 10 then by subst k6; exact Eq.trans (b := G14.2.2.2.2.1) rfl rfl else by unfold uA; simp only [nb1 k0, nb1 k1, nb1 k2, nb1 k3, nb1 k4, nb1 k5, nb1 k6, cond_false]) rfl K)
              · have h7 : ¬ ((A 4).getD x2.toInt.toNat 0) = x1 := h
                rw [if_neg h7] at hE
                refine w_n 1 (pc1 := 80) (ls1 := [some (.ref 0), some (.int x1), some (.int x2), some (.int x3), some (.int x4), some (.int x5), some (.int ((A 4).getD x2.toInt.toNat 0))]) (st1 := [.int 0]) (hp1 := (hz F A L)) rfl ?_
                subst T
                exact w_ri rfl (cvQ (funext fun q => funext fun z => if k0 : q = 3 ∧ z = 1 then by obtain ⟨w1, w2⟩ := k0; subst w1; subst w2; exact Eq.trans (b := (F 3 1)) rfl rfl else by unfold uF; simp only [nb2 k0, cond_false]) (funext fun q => if k0 : q = 4 then by subst k0; exact Eq.trans (b := (A 4)) rfl rfl else if k1 : q = 5 then by subst k1; exact Eq.trans (b := (A 5)) rfl rfl else if k2 : q = 6 then by subst k2; exact Eq.trans (b := (A 6)) rfl rfl else if k3 : q = 7 then by subst k3; exact Eq.trans (b := (A 7)) rfl rfl else if k4 : q = 8 then by subst k4; exact Eq.trans (b := (A 8)) rfl rfl else if k5 : q = 9 then by subst k5; exact Eq.trans (b := (A 9)) rfl rfl else if k6 : q = 10 then by subst k6; exact Eq.trans (b := (A 10)) rfl rfl else by unfold uA; simp only [nb1 k0, nb1 k1, nb1 k2, nb1 k3, nb1 k4, nb1 k5, nb1 k6, cond_false]) (funext fun q => if k0 : q = 11 then by subst k0; exact Eq.trans (b := (L 11)) rfl rfl else by unfold uL; simp only [nb1 k0, cond_false]) K)
          · have h5 : G11 = 0 := h
            rw [if_pos h5] at hE
            refine w_n 1 (pc1 := 55) (ls1 := [some (.ref 0), some (.int x1), some (.int x2), some (.int x3), some (.int x4), some (.int x5), none]) (st1 := [.int 0]) (hp1 := (hz F A L)) rfl ?_
            subst T
            exact w_ri rfl (cvQ (funext fun q => funext fun z => if k0 : q = 3 ∧ z = 1 then by obtain ⟨w1, w2⟩ := k0; subst w1; subst w2; exact Eq.trans (b := (F 3 1)) rfl rfl else by unfold uF; simp only [nb2 k0, cond_false]) (funext fun q => if k0 : q = 4 then by subst k0; exact Eq.trans (b := (A 4)) rfl rfl else if k1 : q = 5 then by subst k1; exact Eq.trans (b := (A 5)) rfl rfl else if k2 : q = 6 then by subst k2; exact Eq.trans (b := (A 6)) rfl rfl else if k3 : q = 7 then by subst k3; exact Eq.trans (b := (A 7)) rfl rfl else if k4 : q = 8 then by subst k4; exact Eq.trans (b := (A 8)) rfl rfl else if k5 : q = 9 then by subst k5; exact Eq.trans (b := (A 9)) rfl rfl else if k6 : q = 10 then by subst k6; exact Eq.trans (b := (A 10)) rfl rfl else by unfold uA; simp only [nb1 k0, nb1 k1, nb1 k2, nb1 k3, nb1 k4, nb1 k5, nb1 k6, cond_false]) (funext fun q => if k0 : q = 11 then by subst k0; exact Eq.trans (b := (L 11)) rfl rfl else by unfold uL; simp only [nb1 k0, cond_false]) K)
    · have h2 : G8 = 0 := h
      rw [if_pos h2] at hE
      refine w_n 1 (pc1 := 21) (ls1 := [some (.ref 0), some (.int x1), some (.int x2), some (.int x3), some (.int x4), some (.int x5), none]) (st1 := [.int 0]) (hp1 := (hz F A L)) rfl ?_
      subst T
      exact w_ri rfl (cvQ (funext fun q => funext fun z => if k0 : q = 3 ∧ z = 1 then by obtain ⟨w1, w2⟩ := k0; subst w1; subst w2; exact Eq.trans (b := (F 3 1)) rfl rfl else by unfold uF; simp only [nb2 k0, cond_false]) (funext fun q => if k0 : q = 4 then by subst k0; exact Eq.trans (b := (A 4)) rfl rfl else if k1 : q = 5 then by subst k1; exact Eq.trans (b := (A 5)) rfl rfl else if k2 : q = 6 then by subst k2; exact Eq.trans (b := (A 6)) rfl rfl else if k3 : q = 7 then by subst k3; exact Eq.trans (b := (A 7)) rfl rfl else if k4 : q = 8 then by subst k4; exact Eq.trans (b := (A 8)) rfl rfl else if k5 : q = 9 then by subst k5; exact Eq.trans (b := (A 9)) rfl rfl else if k6 : q = 10 then by subst k6; exact Eq.trans (b := (A 10)) rfl rfl else by unfold uA; simp only [nb1 k0, nb1 k1, nb1 k2, nb1 k3, nb1 k4, nb1 k5, nb1 k6, cond_false]) (funext fun q => if k0 : q = 11 then by subst k0; exact Eq.trans (b := (L 11)) rfl rfl else by unfold uL; simp only [nb1 k0, cond_false]) K)
noncomputable def km_has (x0 : Int32) (x1 : Int32) : Int32 := (if ((x0 >>> (x1 &&& 31)) &&& 1) = 1 then 1 else 0)
theorem t_km_has {f D : Nat} {F : Nat → Nat → Int32} {A : Nat → List Int32} {L : Nat → List Int64} {Q : Option Value → sm_H → Prop} {x0 : Int32} {x1 : Int32} (K : Q (some (.int (km_has x0 x1))) (hz F A L)) : wl_M f D 146 [.int x0, .int x1] (hz F A L) Q := by
  generalize hT : (km_has x0 x1) = T at K
  have hE : T = (if ((x0 >>> (x1 &&& 31)) &&& 1) = 1 then 1 else 0) := hT.symm
  clear hT
  refine w_m (E := mm146) rfl ?_
  show wl_E f f (D - 1) mm146.2.2.2.2.2.2.2.2 0 [some (.int x0), some (.int x1)] [] (hz F A L) Q
  refine w_n 6 (pc1 := 6) (ls1 := [some (.int x0), some (.int x1)]) (st1 := [.int 1, .int ((x0 >>> (x1 &&& 31)) &&& 1)]) (hp1 := (hz F A L)) rfl ?_
  refine w_ne (p3 := 9) rfl rfl (fun h => ?_) (fun h => ?_)
  · have h1 : ¬ ((x0 >>> (x1 &&& 31)) &&& 1) = 1 := h
    rw [if_neg h1] at hE
    refine w_n 1 (pc1 := 14) (ls1 := [some (.int x0), some (.int x1)]) (st1 := [.int 0]) (hp1 := (hz F A L)) rfl ?_
    subst T
    exact w_ri rfl (cvQ rfl rfl rfl K)
  · have h1 : ((x0 >>> (x1 &&& 31)) &&& 1) = 1 := h
    rw [if_pos h1] at hE
    refine w_n 2 (pc1 := 14) (ls1 := [some (.int x0), some (.int x1)]) (st1 := [.int 1]) (hp1 := (hz F A L)) rfl ?_
    subst T
    exact w_ri rfl (cvQ rfl rfl rfl K)
noncomputable def km_isGuest (a68 : List Int32) (x1 : Int32) : Int32 := (if (km_in x1 0 11) = 0 then 0 else (if (km_has (a68.getD 144 0) x1) = 0 then 0 else 1))
theorem t_km_isGuest {f D : Nat} {F : Nat → Nat → Int32} {A : Nat → List Int32} {L : Nat → List Int64} {Q : Option Value → sm_H → Prop} {x1 : Int32} (K : Q (some (.int (km_isGuest (A 68) x1))) (hz F A L)) : wl_M f D 145 [.ref 67, .int x1] (hz F A L) Q := by
  generalize hT : (km_isGuest (A 68) x1) = T at K
  have hE : T = (if (km_in x1 0 11) = 0 then 0 else (if (km_has ((A 68).getD 144 0) x1) = 0 then 0 else 1)) := hT.symm
  clear hT
  refine w_m (E := mm145) rfl ?_
  show wl_E f f (D - 1) mm145.2.2.2.2.2.2.2.2 0 [some (.ref 67), some (.int x1)] [] (hz F A L) Q
  refine w_n 3 (pc1 := 4) (ls1 := [some (.ref 67), some (.int x1)]) (st1 := [.int 11, .int 0, .int x1]) (hp1 := (hz F A L)) rfl ?_
  refine w_c rfl rfl (t_km_in ?_)
  show wl_E f _ _ mm145.2.2.2.2.2.2.2.2 7 [some (.ref 67), some (.int x1)] [.int (km_in x1 0 11)] (hz F A L) _
  generalize hG20 : (km_in x1 0 11) = G20 at hE ⊢
  refine w_zeq (p3 := 10) rfl rfl (fun h => ?_) (fun h => ?_)
  · have h1 : G20 = 0 := h
    rw [if_pos h1] at hE
    refine w_n 1 (pc1 := 30) (ls1 := [some (.ref 67), some (.int x1)]) (st1 := [.int 0]) (hp1 := (hz F A L)) rfl ?_
    subst T
    exact w_ri rfl (cvQ rfl rfl rfl K)
  · have h1 : ¬ G20 = 0 := h
    rw [if_neg h1] at hE
    refine w_n 3 (pc1 := 17) (ls1 := [some (.ref 67), some (.int x1)]) (st1 := [.int 144, .ref 68]) (hp1 := (hz F A L)) rfl ?_
    refine w_al (k := 68) (l := (A 68)) rfl rfl rfl (fun _ => ?_)
    refine w_n 1 (pc1 := 19) (ls1 := [some (.ref 67), some (.int x1)]) (st1 := [.int x1, .int ((A 68).getD 144 0)]) (hp1 := (hz F A L)) rfl ?_
    refine w_c rfl rfl (t_km_has ?_)
    show wl_E f _ _ mm145.2.2.2.2.2.2.2.2 22 [some (.ref 67), some (.int x1)] [.int (km_has ((A 68).getD 144 0) x1)] (hz F A L) _
    generalize hG21 : (km_has ((A 68).getD 144 0) x1) = G21 at hE ⊢
    refine w_zeq (p3 := 25) rfl rfl (fun h => ?_) (fun h => ?_)
    · have h2 : G21 = 0 := h
      rw [if_pos h2] at hE
      refine w_n 1 (pc1 := 30) (ls1 := [some (.ref 67), some (.int x1)]) (st1 := [.int 0]) (hp1 := (hz F A L)) rfl ?_
      subst T
      exact w_ri rfl (cvQ rfl rfl rfl K)
    · have h2 : ¬ G21 = 0 := h
      rw [if_neg h2] at hE
      refine w_n 2 (pc1 := 30) (ls1 := [some (.ref 67), some (.int x1)]) (st1 := [.int 1]) (hp1 := (hz F A L)) rfl ?_
      subst T
      exact w_ri rfl (cvQ rfl rfl rfl K)
noncomputable def km_atSeat_2 (a68 : List Int32) (x1 : Int32) : Nat → Int32 → Int32
  | 0, _ => (-1)
  | m + 1, y2 => (if (km_isGuest a68 y2) = 0 then (km_atSeat_2 a68 x1 m (y2 + 1)) else (if (a68.getD (0 + y2).toInt.toNat 0) = x1 then y2 else (km_atSeat_2 a68 x1 m (y2 + 1))))
theorem t_km_atSeat_2 {f : Nat} {Q : Option Value → sm_H → Prop} : ∀ (m : Nat) {B D : Nat} {F : Nat → Nat → Int32} {A : Nat → List Int32} {L : Nat → List Int64} {x1 : Int32} {y2 : Int32}, m = (12 - y2.toInt).toNat → (Q (some (.int (km_atSeat_2 (A 68) x1 m y2))) (hz F A L)) → wl_E f B D mm144.2.2.2.2.2.2.2.2 2 [some (.ref 67), some (.int x1), some (.int y2)] [] (hz F A L) Q := by
  intro m
  induction m with
  | zero =>
    intro B D F A L x1 y2 hm K
    generalize hT : (km_atSeat_2 (A 68) x1 0 y2) = T at K
    have hE : T = (-1) := hT.symm
    clear hT
    refine w_n 2 (pc1 := 5) (ls1 := [some (.ref 67), some (.int x1), some (.int y2)]) (st1 := [.int 12, .int y2]) (hp1 := (hz F A L)) rfl ?_
    refine w_ge (p3 := 8) rfl rfl (fun hb => ?_) (fun h => False.elim (by have h : y2.toInt < 12 := h; omega))
    refine w_n 1 (pc1 := 37) (ls1 := [some (.ref 67), some (.int x1), some (.int y2)]) (st1 := [.int (-1)]) (hp1 := (hz F A L)) rfl ?_
    subst T
    exact w_ri rfl (cvQ rfl rfl rfl K)
  | succ m ih =>
    intro B D F A L x1 y2 hm K
    generalize hT : (km_atSeat_2 (A 68) x1 (m + 1) y2) = T at K
    have hE : T = (if (km_isGuest (A 68) y2) = 0 then (km_atSeat_2 (A 68) x1 m (y2 + 1)) else (if ((A 68).getD (0 + y2).toInt.toNat 0) = x1 then y2 else (km_atSeat_2 (A 68) x1 m (y2 + 1)))) := hT.symm
    clear hT
    refine w_n 2 (pc1 := 5) (ls1 := [some (.ref 67), some (.int x1), some (.int y2)]) (st1 := [.int 12, .int y2]) (hp1 := (hz F A L)) rfl ?_
    refine w_ge (p3 := 8) rfl rfl (fun h => False.elim (by have h : 12 ≤ y2.toInt := h; omega)) (fun hb => ?_)
    refine w_n 2 (pc1 := 10) (ls1 := [some (.ref 67), some (.int x1), some (.int y2)]) (st1 := [.int y2, .ref 67]) (hp1 := (hz F A L)) rfl ?_
    refine w_c rfl rfl (t_km_isGuest ?_)
    show wl_E f _ _ mm144.2.2.2.2.2.2.2.2 13 [some (.ref 67), some (.int x1), some (.int y2)] [.int (km_isGuest (A 68) y2)] (hz F A L) _
    generalize hG22 : (km_isGuest (A 68) y2) = G22 at hE ⊢
    refine w_zeq (p3 := 16) rfl rfl (fun h => ?_) (fun h => ?_)
    · have h1 : G22 = 0 := h
      rw [if_pos h1] at hE
      refine w_n 2 (pc1 := 2) (ls1 := [some (.ref 67), some (.int x1), some (.int (y2 + 1))]) (st1 := []) (hp1 := (hz F A L)) rfl ?_
      subst T
      have hb2 := i_up (B := (12 : Int32)) hb
      have hb3 : y2.toInt < 12 := hb
      exact ih (show m = (12 - (y2 + 1).toInt).toNat by rw [hb2]; omega) (cvQ rfl rfl rfl K)
    · have h1 : ¬ G22 = 0 := h
      rw [if_neg h1] at hE
      refine w_n 5 (pc1 := 23) (ls1 := [some (.ref 67), some (.int x1), some (.int y2)]) (st1 := [.int (0 + y2), .ref 68]) (hp1 := (hz F A L)) rfl ?_
      refine w_al (k := 68) (l := (A 68)) rfl rfl rfl (fun _ => ?_)
      refine w_n 1 (pc1 := 25) (ls1 := [some (.ref 67), some (.int x1), some (.int y2)]) (st1 := [.int x1, .int ((A 68).getD (0 + y2).toInt.toNat 0)]) (hp1 := (hz F A L)) rfl ?_
      refine w_ne (p3 := 28) rfl rfl (fun h => ?_) (fun h => ?_)
      · have h2 : ¬ ((A 68).getD (0 + y2).toInt.toNat 0) = x1 := h
        rw [if_neg h2] at hE
        refine w_n 2 (pc1 := 2) (ls1 := [some (.ref 67), some (.int x1), some (.int (y2 + 1))]) (st1 := []) (hp1 := (hz F A L)) rfl ?_
        subst T
        have hb2 := i_up (B := (12 : Int32)) hb
        have hb3 : y2.toInt < 12 := hb
        exact ih (show m = (12 - (y2 + 1).toInt).toNat by rw [hb2]; omega) (cvQ rfl rfl rfl K)
      · have h2 : ((A 68).getD (0 + y2).toInt.toNat 0) = x1 := h
        rw [if_pos h2] at hE
        refine w_n 1 (pc1 := 29) (ls1 := [some (.ref 67), some (.int x1), some (.int y2)]) (st1 := [.int y2]) (hp1 := (hz F A L)) rfl ?_
        subst T
        exact w_ri rfl (cvQ rfl rfl rfl K)
noncomputable def km_atSeat (a68 : List Int32) (x1 : Int32) : Int32 := (km_atSeat_2 a68 x1 12 0)
theorem t_km_atSeat {f D : Nat} {F : Nat → Nat → Int32} {A : Nat → List Int32} {L : Nat → List Int64} {Q : Option Value → sm_H → Prop} {x1 : Int32} (K : Q (some (.int (km_atSeat (A 68) x1))) (hz F A L)) : wl_M f D 144 [.ref 67, .int x1] (hz F A L) Q := by
  generalize hT : (km_atSeat (A 68) x1) = T at K
  have hE : T = (km_atSeat_2 (A 68) x1 12 0) := hT.symm
  clear hT
  refine w_m (E := mm144) rfl ?_
  show wl_E f f (D - 1) mm144.2.2.2.2.2.2.2.2 0 [some (.ref 67), some (.int x1), none] [] (hz F A L) Q
  refine w_n 2 (pc1 := 2) (ls1 := [some (.ref 67), some (.int x1), some (.int 0)]) (st1 := []) (hp1 := (hz F A L)) rfl ?_
  subst T
  exact t_km_atSeat_2 _ (show (12 : Nat) = (12 - (0 : Int32).toInt).toNat by have e0 : (0 : Int32).toInt = 0 := rfl; first | rfl | omega) (cvQ rfl rfl rfl K)
noncomputable def km_guest (a68 : List Int32) (x1 : Int32) (x2 : Int32) (x3 : Int32) (x4 : Int32) (x5 : Int32) : Int32 × List Int32 := (if (km_in x1 0 11) = 0 then (0, a68) else (if (km_in x2 0 11) = 0 then (0, a68) else (if (km_in x3 0 20) = 0 then (0, a68) else (if (km_in x4 0 99) = 0 then (0, a68) else (if (km_in x5 0 9) = 0 then (0, a68) else (if (km_atSeat a68 x2) = (-1) then (1, (km_ranksNone (((((((a68.set 144 ((a68.getD 144 0) ||| ((1 : Int32) <<< (x1 &&& 31)))).set (0 + x1).toInt.toNat x2).set (12 + x1).toInt.toNat x3).set (24 + x1).toInt.toNat x4).set (36 + x1).toInt.toNat x5).set (48 + x1).toInt.toNat 0).set (60 + x1).toInt.toNat 0) x1)) else (if (km_atSeat a68 x2) = x1 then (1, (km_ranksNone (((((((a68.set 144 ((a68.getD 144 0) ||| ((1 : Int32) <<< (x1 &&& 31)))).set (0 + x1).toInt.toNat x2).set (12 + x1).toInt.toNat x3).set (24 + x1).toInt.toNat x4).set (36 + x1).toInt.toNat x5).set (48 + x1).toInt.toNat 0).set (60 + x1).toInt.toNat 0) x1)) else (0, a68))))))))
theorem t_km_guest {f D : Nat} {F : Nat → Nat → Int32} {A : Nat → List Int32} {L : Nat → List Int64} {Q : Option Value → sm_H → Prop} {x1 : Int32} {x2 : Int32} {x3 : Int32} {x4 : Int32} {x5 : Int32} (K : Q (some (.int ((km_guest (A 68) x1 x2 x3 x4 x5).1))) (hz F (uA A 68 ((km_guest (A 68) x1 x2 x3 x4 x5).2)) L)) : wl_M f D 143 [.ref 67, .int x1, .int x2, .int x3, .int x4, .int x5] (hz F A L) Q := by
  generalize hT : (km_guest (A 68) x1 x2 x3 x4 x5) = T at K
  have hE : T = (if (km_in x1 0 11) = 0 then (0, (A 68)) else (if (km_in x2 0 11) = 0 then (0, (A 68)) else (if (km_in x3 0 20) = 0 then (0, (A 68)) else (if (km_in x4 0 99) = 0 then (0, (A 68)) else (if (km_in x5 0 9) = 0 then (0, (A 68)) else (if (km_atSeat (A 68) x2) = (-1) then (1, (km_ranksNone ((((((((A 68).set 144 (((A 68).getD 144 0) ||| ((1 : Int32) <<< (x1 &&& 31)))).set (0 + x1).toInt.toNat x2).set (12 + x1).toInt.toNat x3).set (24 + x1).toInt.toNat x4).set (36 + x1).toInt.toNat x5).set (48 + x1).toInt.toNat 0).set (60 + x1).toInt.toNat 0) x1)) else (if (km_atSeat (A 68) x2) = x1 then (1, (km_ranksNone ((((((((A 68).set 144 (((A 68).getD 144 0) ||| ((1 : Int32) <<< (x1 &&& 31)))).set (0 + x1).toInt.toNat x2).set (12 + x1).toInt.toNat x3).set (24 + x1).toInt.toNat x4).set (36 + x1).toInt.toNat x5).set (48 + x1).toInt.toNat 0).set (60 + x1).toInt.toNat 0) x1)) else (0, (A 68))))))))) := hT.symm
  clear hT
  refine w_m (E := mm143) rfl ?_
  show wl_E f f (D - 1) mm143.2.2.2.2.2.2.2.2 0 [some (.ref 67), some (.int x1), some (.int x2), some (.int x3), some (.int x4), some (.int x5)] [] (hz F A L) Q
  refine w_n 3 (pc1 := 4) (ls1 := [some (.ref 67), some (.int x1), some (.int x2), some (.int x3), some (.int x4), some (.int x5)]) (st1 := [.int 11, .int 0, .int x1]) (hp1 := (hz F A L)) rfl ?_
  refine w_c rfl rfl (t_km_in ?_)
  show wl_E f _ _ mm143.2.2.2.2.2.2.2.2 7 [some (.ref 67), some (.int x1), some (.int x2), some (.int x3), some (.int x4), some (.int x5)] [.int (km_in x1 0 11)] (hz F A L) _
  generalize hG15 : (km_in x1 0 11) = G15 at hE ⊢
  refine w_zeq (p3 := 10) rfl rfl (fun h => ?_) (fun h => ?_)
  · have h1 : G15 = 0 := h
    rw [if_pos h1] at hE
    refine w_n 1 (pc1 := 53) (ls1 := [some (.ref 67), some (.int x1), some (.int x2), some (.int x3), some (.int x4), some (.int x5)]) (st1 := [.int 0]) (hp1 := (hz F A L)) rfl ?_
    subst T
    exact w_ri rfl (cvQ rfl (funext fun q => if k0 : q = 68 then by subst k0; exact Eq.trans (b := (A 68)) rfl rfl else by unfold uA; simp only [nb1 k0, cond_false]) rfl K)
  · have h1 : ¬ G15 = 0 := h
    rw [if_neg h1] at hE
    refine w_n 3 (pc1 := 14) (ls1 := [some (.ref 67), some (.int x1), some (.int x2), some (.int x3), some (.int x4), some (.int x5)]) (st1 := [.int 11, .int 0, .int x2]) (hp1 := (hz F A L)) rfl ?_
    refine w_c rfl rfl (t_km_in ?_)
    show wl_E f _ _ mm143.2.2.2.2.2.2.2.2 17 [some (.ref 67), some (.int x1), some (.int x2), some (.int x3), some (.int x4), some (.int x5)] [.int (km_in x2 0 11)] (hz F A L) _
    generalize hG16 : (km_in x2 0 11) = G16 at hE ⊢
    refine w_zeq (p3 := 20) rfl rfl (fun h => ?_) (fun h => ?_)
    · have h2 : G16 = 0 := h
      rw [if_pos h2] at hE
      refine w_n 1 (pc1 := 53) (ls1 := [some (.ref 67), some (.int x1), some (.int x2), some (.int x3), some (.int x4), some (.int x5)]) (st1 := [.int 0]) (hp1 := (hz F A L)) rfl ?_
      subst T
      exact w_ri rfl (cvQ rfl (funext fun q => if k0 : q = 68 then by subst k0; exact Eq.trans (b := (A 68)) rfl rfl else by unfold uA; simp only [nb1 k0, cond_false]) rfl K)
    · have h2 : ¬ G16 = 0 := h
      rw [if_neg h2] at hE
      refine w_n 3 (pc1 := 24) (ls1 := [some (.ref 67), some (.int x1), some (.int x2), some (.int x3), some (.int x4), some (.int x5)]) (st1 := [.int 20, .int 0, .int x3]) (hp1 := (hz F A L)) rfl ?_
      refine w_c rfl rfl (t_km_in ?_)
      show wl_E f _ _ mm143.2.2.2.2.2.2.2.2 27 [some (.ref 67), some (.int x1), some (.int x2), some (.int x3), some (.int x4), some (.int x5)] [.int (km_in x3 0 20)] (hz F A L) _
      generalize hG17 : (km_in x3 0 20) = G17 at hE ⊢
      refine w_zeq (p3 := 30) rfl rfl (fun h => ?_) (fun h => ?_)
      · have h3 : G17 = 0 := h
        rw [if_pos h3] at hE
        refine w_n 1 (pc1 := 53) (ls1 := [some (.ref 67), some (.int x1), some (.int x2), some (.int x3), some (.int x4), some (.int x5)]) (st1 := [.int 0]) (hp1 := (hz F A L)) rfl ?_
        subst T
        exact w_ri rfl (cvQ rfl (funext fun q => if k0 : q = 68 then by subst k0; exact Eq.trans (b := (A 68)) rfl rfl else by unfold uA; simp only [nb1 k0, cond_false]) rfl K)
      · have h3 : ¬ G17 = 0 := h
        rw [if_neg h3] at hE
        refine w_n 3 (pc1 := 35) (ls1 := [some (.ref 67), some (.int x1), some (.int x2), some (.int x3), some (.int x4), some (.int x5)]) (st1 := [.int 99, .int 0, .int x4]) (hp1 := (hz F A L)) rfl ?_
        refine w_c rfl rfl (t_km_in ?_)
        show wl_E f _ _ mm143.2.2.2.2.2.2.2.2 38 [some (.ref 67), some (.int x1), some (.int x2), some (.int x3), some (.int x4), some (.int x5)] [.int (km_in x4 0 99)] (hz F A L) _
        generalize hG18 : (km_in x4 0 99) = G18 at hE ⊢
        refine w_zeq (p3 := 41) rfl rfl (fun h => ?_) (fun h => ?_)
        · have h4 : G18 = 0 := h
          rw [if_pos h4] at hE
          refine w_n 1 (pc1 := 53) (ls1 := [some (.ref 67), some (.int x1), some (.int x2), some (.int x3), some (.int x4), some (.int x5)]) (st1 := [.int 0]) (hp1 := (hz F A L)) rfl ?_
          subst T
          exact w_ri rfl (cvQ rfl (funext fun q => if k0 : q = 68 then by subst k0; exact Eq.trans (b := (A 68)) rfl rfl else by unfold uA; simp only [nb1 k0, cond_false]) rfl K)
        · have h4 : ¬ G18 = 0 := h
          rw [if_neg h4] at hE
          refine w_n 3 (pc1 := 46) (ls1 := [some (.ref 67), some (.int x1), some (.int x2), some (.int x3), some (.int x4), some (.int x5)]) (st1 := [.int 9, .int 0, .int x5]) (hp1 := (hz F A L)) rfl ?_
          refine w_c rfl rfl (t_km_in ?_)
          show wl_E f _ _ mm143.2.2.2.2.2.2.2.2 49 [some (.ref 67), some (.int x1), some (.int x2), some (.int x3), some (.int x4), some (.int x5)] [.int (km_in x5 0 9)] (hz F A L) _
          generalize hG19 : (km_in x5 0 9) = G19 at hE ⊢
          refine w_zne (p3 := 52) rfl rfl (fun h => ?_) (fun h => ?_)
          · have h5 : ¬ G19 = 0 := h
            rw [if_neg h5] at hE
            refine w_n 2 (pc1 := 56) (ls1 := [some (.ref 67), some (.int x1), some (.int x2), some (.int x3), some (.int x4), some (.int x5)]) (st1 := [.int x2, .ref 67]) (hp1 := (hz F A L)) rfl ?_
            refine w_c rfl rfl (t_km_atSeat ?_)
            show wl_E f _ _ mm143.2.2.2.2.2.2.2.2 59 [some (.ref 67), some (.int x1), some (.int x2), some (.int x3), some (.int x4), some (.int x5)] [.int (km_atSeat (A 68) x2)] (hz F A L) _
            generalize hG23 : (km_atSeat (A 68) x2) = G23 at hE ⊢
            refine w_n 1 (pc1 := 60) (ls1 := [some (.ref 67), some (.int x1), some (.int x2), some (.int x3), some (.int x4), some (.int x5)]) (st1 := [.int (-1), .int G23]) (hp1 := (hz F A L)) rfl ?_
            refine w_eq (p3 := 63) rfl rfl (fun h => ?_) (fun h => ?_)
            · have h6 : G23 = (-1) := h
              rw [if_pos h6] at hE
              refine w_n 6 (pc1 := 88) (ls1 := [some (.ref 67), some (.int x1), some (.int x2), some (.int x3), some (.int x4), some (.int x5)]) (st1 := [.int 144, .ref 68, .int 144, .ref 68]) (hp1 := (hz F A L)) rfl ?_
              refine w_al (k := 68) (l := (A 68)) rfl rfl rfl (fun _ => ?_)
              refine w_n 4 (pc1 := 93) (ls1 := [some (.ref 67), some (.int x1), some (.int x2), some (.int x3), some (.int x4), some (.int x5)]) (st1 := [.int (((A 68).getD 144 0) ||| ((1 : Int32) <<< (x1 &&& 31))), .int 144, .ref 68]) (hp1 := (hz F A L)) rfl ?_
              refine w_as (k := 68) (l := (A 68)) (hp1 := (hz F (uA A 68 ((A 68).set 144 (((A 68).getD 144 0) ||| ((1 : Int32) <<< (x1 &&& 31))))) L)) rfl rfl rfl (hz_s68 _) (fun _ => ?_)
              refine w_n 6 (pc1 := 102) (ls1 := [some (.ref 67), some (.int x1), some (.int x2), some (.int x3), some (.int x4), some (.int x5)]) (st1 := [.int x2, .int (0 + x1), .ref 68]) (hp1 := (hz F (uA A 68 ((A 68).set 144 (((A 68).getD 144 0) ||| ((1 : Int32) <<< (x1 &&& 31))))) L)) rfl ?_
              refine w_as (k := 68) (l := ((A 68).set 144 (((A 68).getD 144 0) ||| ((1 : Int32) <<< (x1 &&& 31))))) (hp1 := (hz F (uA (uA A 68 ((A 68).set 144 (((A 68).getD 144 0) ||| ((1 : Int32) <<< (x1 &&& 31))))) 68 (((A 68).set 144 (((A 68).getD 144 0) ||| ((1 : Int32) <<< (x1 &&& 31)))).set (0 + x1).toInt.toNat x2)) L)) rfl rfl rfl (hz_s68 _) (fun _ => ?_)
              refine w_n 6 (pc1 := 112) (ls1 := [some (.ref 67), some (.int x1), some (.int x2), some (.int x3), some (.int x4), some (.int x5)]) (st1 := [.int x3, .int (12 + x1), .ref 68]) (hp1 := (hz F (uA (uA A 68 ((A 68).set 144 (((A 68).getD 144 0) ||| ((1 : Int32) <<< (x1 &&& 31))))) 68 (((A 68).set 144 (((A 68).getD 144 0) ||| ((1 : Int32) <<< (x1 &&& 31)))).set (0 + x1).toInt.toNat x2)) L)) rfl ?_
              refine w_as (k := 68) (l := (((A 68).set 144 (((A 68).getD 144 0) ||| ((1 : Int32) <<< (x1 &&& 31)))).set (0 + x1).toInt.toNat x2)) (hp1 := (hz F (uA (uA (uA A 68 ((A 68).set 144 (((A 68).getD 144 0) ||| ((1 : Int32) <<< (x1 &&& 31))))) 68 (((A 68).set 144 (((A 68).getD 144 0) ||| ((1 : Int32) <<< (x1 &&& 31)))).set (0 + x1).toInt.toNat x2)) 68 ((((A 68).set 144 (((A 68).getD 144 0) ||| ((1 : Int32) <<< (x1 &&& 31)))).set (0 + x1).toInt.toNat x2).set (12 + x1).toInt.toNat x3)) L)) rfl rfl rfl (hz_s68 _) (fun _ => ?_)
              refine w_n 6 (pc1 := 123) (ls1 := [some (.ref 67), some (.int x1), some (.int x2), some (.int x3), some (.int x4), some (.int x5)]) (st1 := [.int x4, .int (24 + x1), .ref 68]) (hp1 := (hz F (uA (uA (uA A 68 ((A 68).set 144 (((A 68).getD 144 0) ||| ((1 : Int32) <<< (x1 &&& 31))))) 68 (((A 68).set 144 (((A 68).getD 144 0) ||| ((1 : Int32) <<< (x1 &&& 31)))).set (0 + x1).toInt.toNat x2)) 68 ((((A 68).set 144 (((A 68).getD 144 0) ||| ((1 : Int32) <<< (x1 &&& 31)))).set (0 + x1).toInt.toNat x2).set (12 + x1).toInt.toNat x3)) L)) rfl ?_
              refine w_as (k := 68) (l := ((((A 68).set 144 (((A 68).getD 144 0) ||| ((1 : Int32) <<< (x1 &&& 31)))).set (0 + x1).toInt.toNat x2).set (12 + x1).toInt.toNat x3)) (hp1 := (hz F (uA (uA (uA (uA A 68 ((A 68).set 144 (((A 68).getD 144 0) ||| ((1 : Int32) <<< (x1 &&& 31))))) 68 (((A 68).set 144 (((A 68).getD 144 0) ||| ((1 : Int32) <<< (x1 &&& 31)))).set (0 + x1).toInt.toNat x2)) 68 ((((A 68).set 144 (((A 68).getD 144 0) ||| ((1 : Int32) <<< (x1 &&& 31)))).set (0 + x1).toInt.toNat x2).set (12 + x1).toInt.toNat x3)) 68 (((((A 68).set 144 (((A 68).getD 144 0) ||| ((1 : Int32) <<< (x1 &&& 31)))).set (0 + x1).toInt.toNat x2).set (12 + x1).toInt.toNat x3).set (24 + x1).toInt.toNat x4)) L)) rfl rfl rfl (hz_s68 _) (fun _ => ?_)
              refine w_n 6 (pc1 := 134) (ls1 := [some (.ref 67), some (.int x1), some (.int x2), some (.int x3), some (.int x4), some (.int x5)]) (st1 := [.int x5, .int (36 + x1), .ref 68]) (hp1 := (hz F (uA (uA (uA (uA A 68 ((A 68).set 144 (((A 68).getD 144 0) ||| ((1 : Int32) <<< (x1 &&& 31))))) 68 (((A 68).set 144 (((A 68).getD 144 0) ||| ((1 : Int32) <<< (x1 &&& 31)))).set (0 + x1).toInt.toNat x2)) 68 ((((A 68).set 144 (((A 68).getD 144 0) ||| ((1 : Int32) <<< (x1 &&& 31)))).set (0 + x1).toInt.toNat x2).set (12 + x1).toInt.toNat x3)) 68 (((((A 68).set 144 (((A 68).getD 144 0) ||| ((1 : Int32) <<< (x1 &&& 31)))).set (0 + x1).toInt.toNat x2).set (12 + x1).toInt.toNat x3).set (24 + x1).toInt.toNat x4)) L)) rfl ?_
              refine w_as (k := 68) (l := (((((A 68).set 144 (((A 68).getD 144 0) ||| ((1 : Int32) <<< (x1 &&& 31)))).set (0 + x1).toInt.toNat x2).set (12 + x1).toInt.toNat x3).set (24 + x1).toInt.toNat x4)) (hp1 := (hz F (uA (uA (uA (uA (uA A 68 ((A 68).set 144 (((A 68).getD 144 0) ||| ((1 : Int32) <<< (x1 &&& 31))))) 68 (((A 68).set 144 (((A 68).getD 144 0) ||| ((1 : Int32) <<< (x1 &&& 31)))).set (0 + x1).toInt.toNat x2)) 68 ((((A 68).set 144 (((A 68).getD 144 0) ||| ((1 : Int32) <<< (x1 &&& 31)))).set (0 + x1).toInt.toNat x2).set (12 + x1).toInt.toNat x3)) 68 (((((A 68).set 144 (((A 68).getD 144 0) ||| ((1 : Int32) <<< (x1 &&& 31)))).set (0 + x1).toInt.toNat x2).set (12 + x1).toInt.toNat x3).set (24 + x1).toInt.toNat x4)) 68 ((((((A 68).set 144 (((A 68).getD 144 0) ||| ((1 : Int32) <<< (x1 &&& 31)))).set (0 + x1).toInt.toNat x2).set (12 + x1).toInt.toNat x3).set (24 + x1).toInt.toNat x4).set (36 + x1).toInt.toNat x5)) L)) rfl rfl rfl (hz_s68 _) (fun _ => ?_)
              refine w_n 6 (pc1 := 144) (ls1 := [some (.ref 67), some (.int x1), some (.int x2), some (.int x3), some (.int x4), some (.int x5)]) (st1 := [.int 0, .int (48 + x1), .ref 68]) (hp1 := (hz F (uA (uA (uA (uA (uA A 68 ((A 68).set 144 (((A 68).getD 144 0) ||| ((1 : Int32) <<< (x1 &&& 31))))) 68 (((A 68).set 144 (((A 68).getD 144 0) ||| ((1 : Int32) <<< (x1 &&& 31)))).set (0 + x1).toInt.toNat x2)) 68 ((((A 68).set 144 (((A 68).getD 144 0) ||| ((1 : Int32) <<< (x1 &&& 31)))).set (0 + x1).toInt.toNat x2).set (12 + x1).toInt.toNat x3)) 68 (((((A 68).set 144 (((A 68).getD 144 0) ||| ((1 : Int32) <<< (x1 &&& 31)))).set (0 + x1).toInt.toNat x2).set (12 + x1).toInt.toNat x3).set (24 + x1).toInt.toNat x4)) 68 ((((((A 68).set 144 (((A 68).getD 144 0) ||| ((1 : Int32) <<< (x1 &&& 31)))).set (0 + x1).toInt.toNat x2).set (12 + x1).toInt.toNat x3).set (24 + x1).toInt.toNat x4).set (36 + x1).toInt.toNat x5)) L)) rfl ?_
              refine w_as (k := 68) (l := ((((((A 68).set 144 (((A 68).getD 144 0) ||| ((1 : Int32) <<< (x1 &&& 31)))).set (0 + x1).toInt.toNat x2).set (12 + x1).toInt.toNat x3).set (24 + x1).toInt.toNat x4).set (36 + x1).toInt.toNat x5)) (hp1 := (hz F (uA (uA (uA (uA (uA (uA A 68 ((A 68).set 144 (((A 68).getD 144 0) ||| ((1 : Int32) <<< (x1 &&& 31))))) 68 (((A 68).set 144 (((A 68).getD 144 0) ||| ((1 : Int32) <<< (x1 &&& 31)))).set (0 + x1).toInt.toNat x2)) 68 ((((A 68).set 144 (((A 68).getD 144 0) ||| ((1 : Int32) <<< (x1 &&& 31)))).set (0 + x1).toInt.toNat x2).set (12 + x1).toInt.toNat x3)) 68 (((((A 68).set 144 (((A 68).getD 144 0) ||| ((1 : Int32) <<< (x1 &&& 31)))).set (0 + x1).toInt.toNat x2).set (12 + x1).toInt.toNat x3).set (24 + x1).toInt.toNat x4)) 68 ((((((A 68).set 144 (((A 68).getD 144 0) ||| ((1 : Int32) <<< (x1 &&& 31)))).set (0 + x1).toInt.toNat x2).set (12 + x1).toInt.toNat x3).set (24 + x1).toInt.toNat x4).set (36 + x1).toInt.toNat x5)) 68 (((((((A 68).set 144 (((A 68).getD 144 0) ||| ((1 : Int32) <<< (x1 &&& 31)))).set (0 + x1).toInt.toNat x2).set (12 + x1).toInt.toNat x3).set (24 + x1).toInt.toNat x4).set (36 + x1).toInt.toNat x5).set (48 + x1).toInt.toNat 0)) L)) rfl rfl rfl (hz_s68 _) (fun _ => ?_)
              refine w_n 6 (pc1 := 154) (ls1 := [some (.ref 67), some (.int x1), some (.int x2), some (.int x3), some (.int x4), some (.int x5)]) (st1 := [.int 0, .int (60 + x1), .ref 68]) (hp1 := (hz F (uA (uA (uA (uA (uA (uA A 68 ((A 68).set 144 (((A 68).getD 144 0) ||| ((1 : Int32) <<< (x1 &&& 31))))) 68 (((A 68).set 144 (((A 68).getD 144 0) ||| ((1 : Int32) <<< (x1 &&& 31)))).set (0 + x1).toInt.toNat x2)) 68 ((((A 68).set 144 (((A 68).getD 144 0) ||| ((1 : Int32) <<< (x1 &&& 31)))).set (0 + x1).toInt.toNat x2).set (12 + x1).toInt.toNat x3)) 68 (((((A 68).set 144 (((A 68).getD 144 0) ||| ((1 : Int32) <<< (x1 &&& 31)))).set (0 + x1).toInt.toNat x2).set (12 + x1).toInt.toNat x3).set (24 + x1).toInt.toNat x4)) 68 ((((((A 68).set 144 (((A 68).getD 144 0) ||| ((1 : Int32) <<< (x1 &&& 31)))).set (0 + x1).toInt.toNat x2).set (12 + x1).toInt.toNat x3).set (24 + x1).toInt.toNat x4).set (36 + x1).toInt.toNat x5)) 68 (((((((A 68).set 144 (((A 68).getD 144 0) ||| ((1 : Int32) <<< (x1 &&& 31)))).set (0 + x1).toInt.toNat x2).set (12 + x1).toInt.toNat x3).set (24 + x1).toInt.toNat x4).set (36 + x1).toInt.toNat x5).set (48 + x1).toInt.toNat 0)) L)) rfl ?_
              refine w_as (k := 68) (l := (((((((A 68).set 144 (((A 68).getD 144 0) ||| ((1 : Int32) <<< (x1 &&& 31)))).set (0 + x1).toInt.toNat x2).set (12 + x1).toInt.toNat x3).set (24 + x1).toInt.toNat x4).set (36 + x1).toInt.toNat x5).set (48 + x1).toInt.toNat 0)) (hp1 := (hz F (uA (uA (uA (uA (uA (uA (uA A 68 ((A 68).set 144 (((A 68).getD 144 0) ||| ((1 : Int32) <<< (x1 &&& 31))))) 68 (((A 68).set 144 (((A 68).getD 144 0) ||| ((1 : Int32) <<< (x1 &&& 31)))).set (0 + x1).toInt.toNat x2)) 68 ((((A 68).set 144 (((A 68).getD 144 0) ||| ((1 : Int32) <<< (x1 &&& 31)))).set (0 + x1).toInt.toNat x2).set (12 + x1).toInt.toNat x3)) 68 (((((A 68).set 144 (((A 68).getD 144 0) ||| ((1 : Int32) <<< (x1 &&& 31)))).set (0 + x1).toInt.toNat x2).set (12 + x1).toInt.toNat x3).set (24 + x1).toInt.toNat x4)) 68 ((((((A 68).set 144 (((A 68).getD 144 0) ||| ((1 : Int32) <<< (x1 &&& 31)))).set (0 + x1).toInt.toNat x2).set (12 + x1).toInt.toNat x3).set (24 + x1).toInt.toNat x4).set (36 + x1).toInt.toNat x5)) 68 (((((((A 68).set 144 (((A 68).getD 144 0) ||| ((1 : Int32) <<< (x1 &&& 31)))).set (0 + x1).toInt.toNat x2).set (12 + x1).toInt.toNat x3).set (24 + x1).toInt.toNat x4).set (36 + x1).toInt.toNat x5).set (48 + x1).toInt.toNat 0)) 68 ((((((((A 68).set 144 (((A 68).getD 144 0) ||| ((1 : Int32) <<< (x1 &&& 31)))).set (0 + x1).toInt.toNat x2).set (12 + x1).toInt.toNat x3).set (24 + x1).toInt.toNat x4).set (36 + x1).toInt.toNat x5).set (48 + x1).toInt.toNat 0).set (60 + x1).toInt.toNat 0)) L)) rfl rfl rfl (hz_s68 _) (fun _ => ?_)
              refine w_n 2 (pc1 := 157) (ls1 := [some (.ref 67), some (.int x1), some (.int x2), some (.int x3), some (.int x4), some (.int x5)]) (st1 := [.int x1, .ref 67]) (hp1 := (hz F (uA (uA (uA (uA (uA (uA (uA A 68 ((A 68).set 144 (((A 68).getD 144 0) ||| ((1 : Int32) <<< (x1 &&& 31))))) 68 (((A 68).set 144 (((A 68).getD 144 0) ||| ((1 : Int32) <<< (x1 &&& 31)))).set (0 + x1).toInt.toNat x2)) 68 ((((A 68).set 144 (((A 68).getD 144 0) ||| ((1 : Int32) <<< (x1 &&& 31)))).set (0 + x1).toInt.toNat x2).set (12 + x1).toInt.toNat x3)) 68 (((((A 68).set 144 (((A 68).getD 144 0) ||| ((1 : Int32) <<< (x1 &&& 31)))).set (0 + x1).toInt.toNat x2).set (12 + x1).toInt.toNat x3).set (24 + x1).toInt.toNat x4)) 68 ((((((A 68).set 144 (((A 68).getD 144 0) ||| ((1 : Int32) <<< (x1 &&& 31)))).set (0 + x1).toInt.toNat x2).set (12 + x1).toInt.toNat x3).set (24 + x1).toInt.toNat x4).set (36 + x1).toInt.toNat x5)) 68 (((((((A 68).set 144 (((A 68).getD 144 0) ||| ((1 : Int32) <<< (x1 &&& 31)))).set (0 + x1).toInt.toNat x2).set (12 + x1).toInt.toNat x3).set (24 + x1).toInt.toNat x4).set (36 + x1).toInt.toNat x5).set (48 + x1).toInt.toNat 0)) 68 ((((((((A 68).set 144 (((A 68).getD 144 0) ||| ((1 : Int32) <<< (x1 &&& 31)))).set (0 + x1).toInt.toNat x2).set (12 + x1).toInt.toNat x3).set (24 + x1).toInt.toNat x4).set (36 + x1).toInt.toNat x5).set (48 + x1).toInt.toNat 0).set (60 + x1).toInt.toNat 0)) L)) rfl ?_
              refine w_c rfl rfl (t_km_ranksNone ?_)
              show wl_E f _ _ mm143.2.2.2.2.2.2.2.2 160 [some (.ref 67), some (.int x1), some (.int x2), some (.int x3), some (.int x4), some (.int x5)] [] (hz F (uA (uA (uA (uA (uA (uA (uA (uA A 68 ((A 68).set 144 (((A 68).getD 144 0) ||| ((1 : Int32) <<< (x1 &&& 31))))) 68 (((A 68).set 144 (((A 68).getD 144 0) ||| ((1 : Int32) <<< (x1 &&& 31)))).set (0 + x1).toInt.toNat x2)) 68 ((((A 68).set 144 (((A 68).getD 144 0) ||| ((1 : Int32) <<< (x1 &&& 31)))).set (0 + x1).toInt.toNat x2).set (12 + x1).toInt.toNat x3)) 68 (((((A 68).set 144 (((A 68).getD 144 0) ||| ((1 : Int32) <<< (x1 &&& 31)))).set (0 + x1).toInt.toNat x2).set (12 + x1).toInt.toNat x3).set (24 + x1).toInt.toNat x4)) 68 ((((((A 68).set 144 (((A 68).getD 144 0) ||| ((1 : Int32) <<< (x1 &&& 31)))).set (0 + x1).toInt.toNat x2).set (12 + x1).toInt.toNat x3).set (24 + x1).toInt.toNat x4).set (36 + x1).toInt.toNat x5)) 68 (((((((A 68).set 144 (((A 68).getD 144 0) ||| ((1 : Int32) <<< (x1 &&& 31)))).set (0 + x1).toInt.toNat x2).set (12 + x1).toInt.toNat x3).set (24 + x1).toInt.toNat x4).set (36 + x1).toInt.toNat x5).set (48 + x1).toInt.toNat 0)) 68 ((((((((A 68).set 144 (((A 68).getD 144 0) ||| ((1 : Int32) <<< (x1 &&& 31)))).set (0 + x1).toInt.toNat x2).set (12 + x1).toInt.toNat x3).set (24 + x1).toInt.toNat x4).set (36 + x1).toInt.toNat x5).set (48 + x1).toInt.toNat 0).set (60 + x1).toInt.toNat 0)) 68 (km_ranksNone ((((((((A 68).set 144 (((A 68).getD 144 0) ||| ((1 : Int32) <<< (x1 &&& 31)))).set (0 + x1).toInt.toNat x2).set (12 + x1).toInt.toNat x3).set (24 + x1).toInt.toNat x4).set (36 + x1).toInt.toNat x5).set (48 + x1).toInt.toNat 0).set (60 + x1).toInt.toNat 0) x1)) L) _
              generalize hG24 : (km_ranksNone ((((((((A 68).set 144 (((A 68).getD 144 0) ||| ((1 : Int32) <<< (x1 &&& 31)))).set (0 + x1).toInt.toNat x2).set (12 + x1).toInt.toNat x3).set (24 + x1).toInt.toNat x4).set (36 + x1).toInt.toNat x5).set (48 + x1).toInt.toNat 0).set (60 + x1).toInt.toNat 0) x1) = G24 at hE ⊢
              refine w_n 1 (pc1 := 161) (ls1 := [some (.ref 67), some (.int x1), some (.int x2), some (.int x3), some (.int x4), some (.int x5)]) (st1 := [.int 1]) (hp1 := (hz F (uA (uA (uA (uA (uA (uA (uA (uA A 68 ((A 68).set 144 (((A 68).getD 144 0) ||| ((1 : Int32) <<< (x1 &&& 31))))) 68 (((A 68).set 144 (((A 68).getD 144 0) ||| ((1 : Int32) <<< (x1 &&& 31)))).set (0 + x1).toInt.toNat x2)) 68 ((((A 68).set 144 (((A 68).getD 144 0) ||| ((1 : Int32) <<< (x1 &&& 31)))).set (0 + x1).toInt.toNat x2).set (12 + x1).toInt.toNat x3)) 68 (((((A 68).set 144 (((A 68).getD 144 0) ||| ((1 : Int32) <<< (x1 &&& 31)))).set (0 + x1).toInt.toNat x2).set (12 + x1).toInt.toNat x3).set (24 + x1).toInt.toNat x4)) 68 ((((((A 68).set 144 (((A 68).getD 144 0) ||| ((1 : Int32) <<< (x1 &&& 31)))).set (0 + x1).toInt.toNat x2).set (12 + x1).toInt.toNat x3).set (24 + x1).toInt.toNat x4).set (36 + x1).toInt.toNat x5)) 68 (((((((A 68).set 144 (((A 68).getD 144 0) ||| ((1 : Int32) <<< (x1 &&& 31)))).set (0 + x1).toInt.toNat x2).set (12 + x1).toInt.toNat x3).set (24 + x1).toInt.toNat x4).set (36 + x1).toInt.toNat x5).set (48 + x1).toInt.toNat 0)) 68 ((((((((A 68).set 144 (((A 68).getD 144 0) ||| ((1 : Int32) <<< (x1 &&& 31)))).set (0 + x1).toInt.toNat x2).set (12 + x1).toInt.toNat x3).set (24 + x1).toInt.toNat x4).set (36 + x1).toInt.toNat x5).set (48 + x1).toInt.toNat 0).set (60 + x1).toInt.toNat 0)) 68 G24) L)) rfl ?_
              subst T
              exact w_ri rfl (cvQ rfl (funext fun q => if k0 : q = 68 then by subst k0; exact Eq.trans (b := G24) rfl rfl else by unfold uA; simp only [nb1 k0, cond_false]) rfl K)
            · have h6 : ¬ G23 = (-1) := h
              rw [if_neg h6] at hE
              refine w_n 2 (pc1 := 65) (ls1 := [some (.ref 67), some (.int x1), some (.int x2), some (.int x3), some (.int x4), some (.int x5)]) (st1 := [.int x2, .ref 67]) (hp1 := (hz F A L)) rfl ?_
              refine w_c rfl rfl (t_km_atSeat ?_)
              show wl_E f _ _ mm143.2.2.2.2.2.2.2.2 68 [some (.ref 67), some (.int x1), some (.int x2), some (.int x3), some (.int x4), some (.int x5)] [.int (km_atSeat (A 68) x2)] (hz F A L) _
              rw [hG23]
              refine w_n 1 (pc1 := 69) (ls1 := [some (.ref 67), some (.int x1), some (.int x2), some (.int x3), some (.int x4), some (.int x5)]) (st1 := [.int x1, .int G23]) (hp1 := (hz F A L)) rfl ?_
              refine w_eq (p3 := 72) rfl rfl (fun h => ?_) (fun h => ?_)
              · have h7 : G23 = x1 := h
                rw [if_pos h7] at hE
                refine w_n 6 (pc1 := 88) (ls1 := [some (.ref 67), some (.int x1), some (.int x2), some (.int x3), some (.int x4), some (.int x5)]) (st1 := [.int 144, .ref 68, .int 144, .ref 68]) (hp1 := (hz F A L)) rfl ?_
                refine w_al (k := 68) (l := (A 68)) rfl rfl rfl (fun _ => ?_)
                refine w_n 4 (pc1 := 93) (ls1 := [some (.ref 67), some (.int x1), some (.int x2), some (.int x3), some (.int x4), some (.int x5)]) (st1 := [.int (((A 68).getD 144 0) ||| ((1 : Int32) <<< (x1 &&& 31))), .int 144, .ref 68]) (hp1 := (hz F A L)) rfl ?_
                refine w_as (k := 68) (l := (A 68)) (hp1 := (hz F (uA A 68 ((A 68).set 144 (((A 68).getD 144 0) ||| ((1 : Int32) <<< (x1 &&& 31))))) L)) rfl rfl rfl (hz_s68 _) (fun _ => ?_)
                refine w_n 6 (pc1 := 102) (ls1 := [some (.ref 67), some (.int x1), some (.int x2), some (.int x3), some (.int x4), some (.int x5)]) (st1 := [.int x2, .int (0 + x1), .ref 68]) (hp1 := (hz F (uA A 68 ((A 68).set 144 (((A 68).getD 144 0) ||| ((1 : Int32) <<< (x1 &&& 31))))) L)) rfl ?_
                refine w_as (k := 68) (l := ((A 68).set 144 (((A 68).getD 144 0) ||| ((1 : Int32) <<< (x1 &&& 31))))) (hp1 := (hz F (uA (uA A 68 ((A 68).set 144 (((A 68).getD 144 0) ||| ((1 : Int32) <<< (x1 &&& 31))))) 68 (((A 68).set 144 (((A 68).getD 144 0) ||| ((1 : Int32) <<< (x1 &&& 31)))).set (0 + x1).toInt.toNat x2)) L)) rfl rfl rfl (hz_s68 _) (fun _ => ?_)
                refine w_n 6 (pc1 := 112) (ls1 := [some (.ref 67), some (.int x1), some (.int x2), some (.int x3), some (.int x4), some (.int x5)]) (st1 := [.int x3, .int (12 + x1), .ref 68]) (hp1 := (hz F (uA (uA A 68 ((A 68).set 144 (((A 68).getD 144 0) ||| ((1 : Int32) <<< (x1 &&& 31))))) 68 (((A 68).set 144 (((A 68).getD 144 0) ||| ((1 : Int32) <<< (x1 &&& 31)))).set (0 + x1).toInt.toNat x2)) L)) rfl ?_
                refine w_as (k := 68) (l := (((A 68).set 144 (((A 68).getD 144 0) ||| ((1 : Int32) <<< (x1 &&& 31)))).set (0 + x1).toInt.toNat x2)) (hp1 := (hz F (uA (uA (uA A 68 ((A 68).set 144 (((A 68).getD 144 0) ||| ((1 : Int32) <<< (x1 &&& 31))))) 68 (((A 68).set 144 (((A 68).getD 144 0) ||| ((1 : Int32) <<< (x1 &&& 31)))).set (0 + x1).toInt.toNat x2)) 68 ((((A 68).set 144 (((A 68).getD 144 0) ||| ((1 : Int32) <<< (x1 &&& 31)))).set (0 + x1).toInt.toNat x2).set (12 + x1).toInt.toNat x3)) L)) rfl rfl rfl (hz_s68 _) (fun _ => ?_)
                refine w_n 6 (pc1 := 123) (ls1 := [some (.ref 67), some (.int x1), some (.int x2), some (.int x3), some (.int x4), some (.int x5)]) (st1 := [.int x4, .int (24 + x1), .ref 68]) (hp1 := (hz F (uA (uA (uA A 68 ((A 68).set 144 (((A 68).getD 144 0) ||| ((1 : Int32) <<< (x1 &&& 31))))) 68 (((A 68).set 144 (((A 68).getD 144 0) ||| ((1 : Int32) <<< (x1 &&& 31)))).set (0 + x1).toInt.toNat x2)) 68 ((((A 68).set 144 (((A 68).getD 144 0) ||| ((1 : Int32) <<< (x1 &&& 31)))).set (0 + x1).toInt.toNat x2).set (12 + x1).toInt.toNat x3)) L)) rfl ?_
                refine w_as (k := 68) (l := ((((A 68).set 144 (((A 68).getD 144 0) ||| ((1 : Int32) <<< (x1 &&& 31)))).set (0 + x1).toInt.toNat x2).set (12 + x1).toInt.toNat x3)) (hp1 := (hz F (uA (uA (uA (uA A 68 ((A 68).set 144 (((A 68).getD 144 0) ||| ((1 : Int32) <<< (x1 &&& 31))))) 68 (((A 68).set 144 (((A 68).getD 144 0) ||| ((1 : Int32) <<< (x1 &&& 31)))).set (0 + x1).toInt.toNat x2)) 68 ((((A 68).set 144 (((A 68).getD 144 0) ||| ((1 : Int32) <<< (x1 &&& 31)))).set (0 + x1).toInt.toNat x2).set (12 + x1).toInt.toNat x3)) 68 (((((A 68).set 144 (((A 68).getD 144 0) ||| ((1 : Int32) <<< (x1 &&& 31)))).set (0 + x1).toInt.toNat x2).set (12 + x1).toInt.toNat x3).set (24 + x1).toInt.toNat x4)) L)) rfl rfl rfl (hz_s68 _) (fun _ => ?_)
                refine w_n 6 (pc1 := 134) (ls1 := [some (.ref 67), some (.int x1), some (.int x2), some (.int x3), some (.int x4), some (.int x5)]) (st1 := [.int x5, .int (36 + x1), .ref 68]) (hp1 := (hz F (uA (uA (uA (uA A 68 ((A 68).set 144 (((A 68).getD 144 0) ||| ((1 : Int32) <<< (x1 &&& 31))))) 68 (((A 68).set 144 (((A 68).getD 144 0) ||| ((1 : Int32) <<< (x1 &&& 31)))).set (0 + x1).toInt.toNat x2)) 68 ((((A 68).set 144 (((A 68).getD 144 0) ||| ((1 : Int32) <<< (x1 &&& 31)))).set (0 + x1).toInt.toNat x2).set (12 + x1).toInt.toNat x3)) 68 (((((A 68).set 144 (((A 68).getD 144 0) ||| ((1 : Int32) <<< (x1 &&& 31)))).set (0 + x1).toInt.toNat x2).set (12 + x1).toInt.toNat x3).set (24 + x1).toInt.toNat x4)) L)) rfl ?_
                refine w_as (k := 68) (l := (((((A 68).set 144 (((A 68).getD 144 0) ||| ((1 : Int32) <<< (x1 &&& 31)))).set (0 + x1).toInt.toNat x2).set (12 + x1).toInt.toNat x3).set (24 + x1).toInt.toNat x4)) (hp1 := (hz F (uA (uA (uA (uA (uA A 68 ((A 68).set 144 (((A 68).getD 144 0) ||| ((1 : Int32) <<< (x1 &&& 31))))) 68 (((A 68).set 144 (((A 68).getD 144 0) ||| ((1 : Int32) <<< (x1 &&& 31)))).set (0 + x1).toInt.toNat x2)) 68 ((((A 68).set 144 (((A 68).getD 144 0) ||| ((1 : Int32) <<< (x1 &&& 31)))).set (0 + x1).toInt.toNat x2).set (12 + x1).toInt.toNat x3)) 68 (((((A 68).set 144 (((A 68).getD 144 0) ||| ((1 : Int32) <<< (x1 &&& 31)))).set (0 + x1).toInt.toNat x2).set (12 + x1).toInt.toNat x3).set (24 + x1).toInt.toNat x4)) 68 ((((((A 68).set 144 (((A 68).getD 144 0) ||| ((1 : Int32) <<< (x1 &&& 31)))).set (0 + x1).toInt.toNat x2).set (12 + x1).toInt.toNat x3).set (24 + x1).toInt.toNat x4).set (36 + x1).toInt.toNat x5)) L)) rfl rfl rfl (hz_s68 _) (fun _ => ?_)
                refine w_n 6 (pc1 := 144) (ls1 := [some (.ref 67), some (.int x1), some (.int x2), some (.int x3), some (.int x4), some (.int x5)]) (st1 := [.int 0, .int (48 + x1), .ref 68]) (hp1 := (hz F (uA (uA (uA (uA (uA A 68 ((A 68).set 144 (((A 68).getD 144 0) ||| ((1 : Int32) <<< (x1 &&& 31))))) 68 (((A 68).set 144 (((A 68).getD 144 0) ||| ((1 : Int32) <<< (x1 &&& 31)))).set (0 + x1).toInt.toNat x2)) 68 ((((A 68).set 144 (((A 68).getD 144 0) ||| ((1 : Int32) <<< (x1 &&& 31)))).set (0 + x1).toInt.toNat x2).set (12 + x1).toInt.toNat x3)) 68 (((((A 68).set 144 (((A 68).getD 144 0) ||| ((1 : Int32) <<< (x1 &&& 31)))).set (0 + x1).toInt.toNat x2).set (12 + x1).toInt.toNat x3).set (24 + x1).toInt.toNat x4)) 68 ((((((A 68).set 144 (((A 68).getD 144 0) ||| ((1 : Int32) <<< (x1 &&& 31)))).set (0 + x1).toInt.toNat x2).set (12 + x1).toInt.toNat x3).set (24 + x1).toInt.toNat x4).set (36 + x1).toInt.toNat x5)) L)) rfl ?_
                refine w_as (k := 68) (l := ((((((A 68).set 144 (((A 68).getD 144 0) ||| ((1 : Int32) <<< (x1 &&& 31)))).set (0 + x1).toInt.toNat x2).set (12 + x1).toInt.toNat x3).set (24 + x1).toInt.toNat x4).set (36 + x1).toInt.toNat x5)) (hp1 := (hz F (uA (uA (uA (uA (uA (uA A 68 ((A 68).set 144 (((A 68).getD 144 0) ||| ((1 : Int32) <<< (x1 &&& 31))))) 68 (((A 68).set 144 (((A 68).getD 144 0) ||| ((1 : Int32) <<< (x1 &&& 31)))).set (0 + x1).toInt.toNat x2)) 68 ((((A 68).set 144 (((A 68).getD 144 0) ||| ((1 : Int32) <<< (x1 &&& 31)))).set (0 + x1).toInt.toNat x2).set (12 + x1).toInt.toNat x3)) 68 (((((A 68).set 144 (((A 68).getD 144 0) ||| ((1 : Int32) <<< (x1 &&& 31)))).set (0 + x1).toInt.toNat x2).set (12 + x1).toInt.toNat x3).set (24 + x1).toInt.toNat x4)) 68 ((((((A 68).set 144 (((A 68).getD 144 0) ||| ((1 : Int32) <<< (x1 &&& 31)))).set (0 + x1).toInt.toNat x2).set (12 + x1).toInt.toNat x3).set (24 + x1).toInt.toNat x4).set (36 + x1).toInt.toNat x5)) 68 (((((((A 68).set 144 (((A 68).getD 144 0) ||| ((1 : Int32) <<< (x1 &&& 31)))).set (0 + x1).toInt.toNat x2).set (12 + x1).toInt.toNat x3).set (24 + x1).toInt.toNat x4).set (36 + x1).toInt.toNat x5).set (48 + x1).toInt.toNat 0)) L)) rfl rfl rfl (hz_s68 _) (fun _ => ?_)
                refine w_n 6 (pc1 := 154) (ls1 := [some (.ref 67), some (.int x1), some (.int x2), some (.int x3), some (.int x4), some (.int x5)]) (st1 := [.int 0, .int (60 + x1), .ref 68]) (hp1 := (hz F (uA (uA (uA (uA (uA (uA A 68 ((A 68).set 144 (((A 68).getD 144 0) ||| ((1 : Int32) <<< (x1 &&& 31))))) 68 (((A 68).set 144 (((A 68).getD 144 0) ||| ((1 : Int32) <<< (x1 &&& 31)))).set (0 + x1).toInt.toNat x2)) 68 ((((A 68).set 144 (((A 68).getD 144 0) ||| ((1 : Int32) <<< (x1 &&& 31)))).set (0 + x1).toInt.toNat x2).set (12 + x1).toInt.toNat x3)) 68 (((((A 68).set 144 (((A 68).getD 144 0) ||| ((1 : Int32) <<< (x1 &&& 31)))).set (0 + x1).toInt.toNat x2).set (12 + x1).toInt.toNat x3).set (24 + x1).toInt.toNat x4)) 68 ((((((A 68).set 144 (((A 68).getD 144 0) ||| ((1 : Int32) <<< (x1 &&& 31)))).set (0 + x1).toInt.toNat x2).set (12 + x1).toInt.toNat x3).set (24 + x1).toInt.toNat x4).set (36 + x1).toInt.toNat x5)) 68 (((((((A 68).set 144 (((A 68).getD 144 0) ||| ((1 : Int32) <<< (x1 &&& 31)))).set (0 + x1).toInt.toNat x2).set (12 + x1).toInt.toNat x3).set (24 + x1).toInt.toNat x4).set (36 + x1).toInt.toNat x5).set (48 + x1).toInt.toNat 0)) L)) rfl ?_
                refine w_as (k := 68) (l := (((((((A 68).set 144 (((A 68).getD 144 0) ||| ((1 : Int32) <<< (x1 &&& 31)))).set (0 + x1).toInt.toNat x2).set (12 + x1).toInt.toNat x3).set (24 + x1).toInt.toNat x4).set (36 + x1).toInt.toNat x5).set (48 + x1).toInt.toNat 0)) (hp1 := (hz F (uA (uA (uA (uA (uA (uA (uA A 68 ((A 68).set 144 (((A 68).getD 144 0) ||| ((1 : Int32) <<< (x1 &&& 31))))) 68 (((A 68).set 144 (((A 68).getD 144 0) ||| ((1 : Int32) <<< (x1 &&& 31)))).set (0 + x1).toInt.toNat x2)) 68 ((((A 68).set 144 (((A 68).getD 144 0) ||| ((1 : Int32) <<< (x1 &&& 31)))).set (0 + x1).toInt.toNat x2).set (12 + x1).toInt.toNat x3)) 68 (((((A 68).set 144 (((A 68).getD 144 0) ||| ((1 : Int32) <<< (x1 &&& 31)))).set (0 + x1).toInt.toNat x2).set (12 + x1).toInt.toNat x3).set (24 + x1).toInt.toNat x4)) 68 ((((((A 68).set 144 (((A 68).getD 144 0) ||| ((1 : Int32) <<< (x1 &&& 31)))).set (0 + x1).toInt.toNat x2).set (12 + x1).toInt.toNat x3).set (24 + x1).toInt.toNat x4).set (36 + x1).toInt.toNat x5)) 68 (((((((A 68).set 144 (((A 68).getD 144 0) ||| ((1 : Int32) <<< (x1 &&& 31)))).set (0 + x1).toInt.toNat x2).set (12 + x1).toInt.toNat x3).set (24 + x1).toInt.toNat x4).set (36 + x1).toInt.toNat x5).set (48 + x1).toInt.toNat 0)) 68 ((((((((A 68).set 144 (((A 68).getD 144 0) ||| ((1 : Int32) <<< (x1 &&& 31)))).set (0 + x1).toInt.toNat x2).set (12 + x1).toInt.toNat x3).set (24 + x1).toInt.toNat x4).set (36 + x1).toInt.toNat x5).set (48 + x1).toInt.toNat 0).set (60 + x1).toInt.toNat 0)) L)) rfl rfl rfl (hz_s68 _) (fun _ => ?_)
                refine w_n 2 (pc1 := 157) (ls1 := [some (.ref 67), some (.int x1), some (.int x2), some (.int x3), some (.int x4), some (.int x5)]) (st1 := [.int x1, .ref 67]) (hp1 := (hz F (uA (uA (uA (uA (uA (uA (uA A 68 ((A 68).set 144 (((A 68).getD 144 0) ||| ((1 : Int32) <<< (x1 &&& 31))))) 68 (((A 68).set 144 (((A 68).getD 144 0) ||| ((1 : Int32) <<< (x1 &&& 31)))).set (0 + x1).toInt.toNat x2)) 68 ((((A 68).set 144 (((A 68).getD 144 0) ||| ((1 : Int32) <<< (x1 &&& 31)))).set (0 + x1).toInt.toNat x2).set (12 + x1).toInt.toNat x3)) 68 (((((A 68).set 144 (((A 68).getD 144 0) ||| ((1 : Int32) <<< (x1 &&& 31)))).set (0 + x1).toInt.toNat x2).set (12 + x1).toInt.toNat x3).set (24 + x1).toInt.toNat x4)) 68 ((((((A 68).set 144 (((A 68).getD 144 0) ||| ((1 : Int32) <<< (x1 &&& 31)))).set (0 + x1).toInt.toNat x2).set (12 + x1).toInt.toNat x3).set (24 + x1).toInt.toNat x4).set (36 + x1).toInt.toNat x5)) 68 (((((((A 68).set 144 (((A 68).getD 144 0) ||| ((1 : Int32) <<< (x1 &&& 31)))).set (0 + x1).toInt.toNat x2).set (12 + x1).toInt.toNat x3).set (24 + x1).toInt.toNat x4).set (36 + x1).toInt.toNat x5).set (48 + x1).toInt.toNat 0)) 68 ((((((((A 68).set 144 (((A 68).getD 144 0) ||| ((1 : Int32) <<< (x1 &&& 31)))).set (0 + x1).toInt.toNat x2).set (12 + x1).toInt.toNat x3).set (24 + x1).toInt.toNat x4).set (36 + x1).toInt.toNat x5).set (48 + x1).toInt.toNat 0).set (60 + x1).toInt.toNat 0)) L)) rfl ?_
                refine w_c rfl rfl (t_km_ranksNone ?_)
                show wl_E f _ _ mm143.2.2.2.2.2.2.2.2 160 [some (.ref 67), some (.int x1), some (.int x2), some (.int x3), some (.int x4), some (.int x5)] [] (hz F (uA (uA (uA (uA (uA (uA (uA (uA A 68 ((A 68).set 144 (((A 68).getD 144 0) ||| ((1 : Int32) <<< (x1 &&& 31))))) 68 (((A 68).set 144 (((A 68).getD 144 0) ||| ((1 : Int32) <<< (x1 &&& 31)))).set (0 + x1).toInt.toNat x2)) 68 ((((A 68).set 144 (((A 68).getD 144 0) ||| ((1 : Int32) <<< (x1 &&& 31)))).set (0 + x1).toInt.toNat x2).set (12 + x1).toInt.toNat x3)) 68 (((((A 68).set 144 (((A 68).getD 144 0) ||| ((1 : Int32) <<< (x1 &&& 31)))).set (0 + x1).toInt.toNat x2).set (12 + x1).toInt.toNat x3).set (24 + x1).toInt.toNat x4)) 68 ((((((A 68).set 144 (((A 68).getD 144 0) ||| ((1 : Int32) <<< (x1 &&& 31)))).set (0 + x1).toInt.toNat x2).set (12 + x1).toInt.toNat x3).set (24 + x1).toInt.toNat x4).set (36 + x1).toInt.toNat x5)) 68 (((((((A 68).set 144 (((A 68).getD 144 0) ||| ((1 : Int32) <<< (x1 &&& 31)))).set (0 + x1).toInt.toNat x2).set (12 + x1).toInt.toNat x3).set (24 + x1).toInt.toNat x4).set (36 + x1).toInt.toNat x5).set (48 + x1).toInt.toNat 0)) 68 ((((((((A 68).set 144 (((A 68).getD 144 0) ||| ((1 : Int32) <<< (x1 &&& 31)))).set (0 + x1).toInt.toNat x2).set (12 + x1).toInt.toNat x3).set (24 + x1).toInt.toNat x4).set (36 + x1).toInt.toNat x5).set (48 + x1).toInt.toNat 0).set (60 + x1).toInt.toNat 0)) 68 (km_ranksNone ((((((((A 68).set 144 (((A 68).getD 144 0) ||| ((1 : Int32) <<< (x1 &&& 31)))).set (0 + x1).toInt.toNat x2).set (12 + x1).toInt.toNat x3).set (24 + x1).toInt.toNat x4).set (36 + x1).toInt.toNat x5).set (48 + x1).toInt.toNat 0).set (60 + x1).toInt.toNat 0) x1)) L) _
                generalize hG25 : (km_ranksNone ((((((((A 68).set 144 (((A 68).getD 144 0) ||| ((1 : Int32) <<< (x1 &&& 31)))).set (0 + x1).toInt.toNat x2).set (12 + x1).toInt.toNat x3).set (24 + x1).toInt.toNat x4).set (36 + x1).toInt.toNat x5).set (48 + x1).toInt.toNat 0).set (60 + x1).toInt.toNat 0) x1) = G25 at hE ⊢
                refine w_n 1 (pc1 := 161) (ls1 := [some (.ref 67), some (.int x1), some (.int x2), some (.int x3), some (.int x4), some (.int x5)]) (st1 := [.int 1]) (hp1 := (hz F (uA (uA (uA (uA (uA (uA (uA (uA A 68 ((A 68).set 144 (((A 68).getD 144 0) ||| ((1 : Int32) <<< (x1 &&& 31))))) 68 (((A 68).set 144 (((A 68).getD 144 0) ||| ((1 : Int32) <<< (x1 &&& 31)))).set (0 + x1).toInt.toNat x2)) 68 ((((A 68).set 144 (((A 68).getD 144 0) ||| ((1 : Int32) <<< (x1 &&& 31)))).set (0 + x1).toInt.toNat x2).set (12 + x1).toInt.toNat x3)) 68 (((((A 68).set 144 (((A 68).getD 144 0) ||| ((1 : Int32) <<< (x1 &&& 31)))).set (0 + x1).toInt.toNat x2).set (12 + x1).toInt.toNat x3).set (24 + x1).toInt.toNat x4)) 68 ((((((A 68).set 144 (((A 68).getD 144 0) ||| ((1 : Int32) <<< (x1 &&& 31)))).set (0 + x1).toInt.toNat x2).set (12 + x1).toInt.toNat x3).set (24 + x1).toInt.toNat x4).set (36 + x1).toInt.toNat x5)) 68 (((((((A 68).set 144 (((A 68).getD 144 0) ||| ((1 : Int32) <<< (x1 &&& 31)))).set (0 + x1).toInt.toNat x2).set (12 + x1).toInt.toNat x3).set (24 + x1).toInt.toNat x4).set (36 + x1).toInt.toNat x5).set (48 + x1).toInt.toNat 0)) 68 ((((((((A 68).set 144 (((A 68).getD 144 0) ||| ((1 : Int32) <<< (x1 &&& 31)))).set (0 + x1).toInt.toNat x2).set (12 + x1).toInt.toNat x3).set (24 + x1).toInt.toNat x4).set (36 + x1).toInt.toNat x5).set (48 + x1).toInt.toNat 0).set (60 + x1).toInt.toNat 0)) 68 G25) L)) rfl ?_
                subst T
                exact w_ri rfl (cvQ rfl (funext fun q => if k0 : q = 68 then by subst k0; exact Eq.trans (b := G25) rfl rfl else by unfold uA; simp only [nb1 k0, cond_false]) rfl K)
              · have h7 : ¬ G23 = x1 := h
                rw [if_neg h7] at hE
                refine w_n 1 (pc1 := 73) (ls1 := [some (.ref 67), some (.int x1), some (.int x2), some (.int x3), some (.int x4), some (.int x5)]) (st1 := [.int 0]) (hp1 := (hz F A L)) rfl ?_
                subst T
                exact w_ri rfl (cvQ rfl (funext fun q => if k0 : q = 68 then by subst k0; exact Eq.trans (b := (A 68)) rfl rfl else by unfold uA; simp only [nb1 k0, cond_false]) rfl K)
          · have h5 : G19 = 0 := h
            rw [if_pos h5] at hE
            refine w_n 1 (pc1 := 53) (ls1 := [some (.ref 67), some (.int x1), some (.int x2), some (.int x3), some (.int x4), some (.int x5)]) (st1 := [.int 0]) (hp1 := (hz F A L)) rfl ?_
            subst T
            exact w_ri rfl (cvQ rfl (funext fun q => if k0 : q = 68 then by subst k0; exact Eq.trans (b := (A 68)) rfl rfl else by unfold uA; simp only [nb1 k0, cond_false]) rfl K)
