/-! lifts, printed by genlift.py: 2 -/
noncomputable def kl_reckon_10 (a48 : List Int32) (a49 : List Int32) (a50 : List Int32) (x2 : Int32) : Nat → Int32 → Int32 → Int32 → List Int32 → Int32 × Int32 × List Int32
  | 0, _, _, f43_10, a51 => (0, f43_10, a51)
  | m + 1, y3, y4, f43_10, a51 => (if y4.toInt < x2.toInt then (if y4.toInt < 240 then (if (a48.getD y4.toInt.toNat 0) = 48 then (if y3.toInt < 40 then (kl_reckon_10 a48 a49 a50 x2 m (y3 + 1) (y4 + 1) f43_10 (a51.set y3.toInt.toNat (a49.getD y4.toInt.toNat 0))) else (0, f43_10, a51)) else (if (a48.getD y4.toInt.toNat 0) = 103 then (if y3.toInt < 40 then (kl_reckon_10 a48 a49 a50 x2 m (y3 + 1) (y4 + 1) f43_10 (a51.set y3.toInt.toNat (a50.getD ((a49.getD y4.toInt.toNat 0) &&& 7).toInt.toNat 0))) else (0, f43_10, a51)) else (if y3.toInt < 1 then (0, f43_10, a51) else (if (a48.getD y4.toInt.toNat 0) = 33 then (if (a51.getD (y3 - 1).toInt.toNat 0) = 0 then (kl_reckon_10 a48 a49 a50 x2 m y3 (y4 + 1) f43_10 (a51.set (y3 - 1).toInt.toNat 1)) else (kl_reckon_10 a48 a49 a50 x2 m y3 (y4 + 1) f43_10 (a51.set (y3 - 1).toInt.toNat 0))) else (if (a48.getD y4.toInt.toNat 0) = 38 then (if (a48.getD y4.toInt.toNat 0) = 124 then (if (a51.getD (y3 - 1).toInt.toNat 0) = 0 then (kl_reckon_10 a48 a49 a50 x2 m (y3 + (-1)) (y4 + 1) f43_10 a51) else (kl_reckon_10 a48 a49 a50 x2 m y3 ((kjm_max y4 ((a49.getD y4.toInt.toNat 0) - 1)) + 1) f43_10 a51)) else (if (a51.getD (y3 - 1).toInt.toNat 0) = 0 then (kl_reckon_10 a48 a49 a50 x2 m y3 ((kjm_max y4 ((a49.getD y4.toInt.toNat 0) - 1)) + 1) f43_10 a51) else (kl_reckon_10 a48 a49 a50 x2 m (y3 + (-1)) (y4 + 1) f43_10 a51))) else (if (a48.getD y4.toInt.toNat 0) = 124 then (if (a51.getD (y3 - 1).toInt.toNat 0) = 0 then (kl_reckon_10 a48 a49 a50 x2 m (y3 + (-1)) (y4 + 1) f43_10 a51) else (kl_reckon_10 a48 a49 a50 x2 m y3 ((kjm_max y4 ((a49.getD y4.toInt.toNat 0) - 1)) + 1) f43_10 a51)) else (if y3.toInt < 2 then (0, f43_10, a51) else (if (kl_combine f43_10 (a48.getD y4.toInt.toNat 0) (a51.getD ((y3 + (-1)) - 1).toInt.toNat 0) (a51.getD (y3 - 1).toInt.toNat 0)).2 = 0 then (kl_reckon_10 a48 a49 a50 x2 m (y3 + (-1)) (y4 + 1) (kl_combine f43_10 (a48.getD y4.toInt.toNat 0) (a51.getD ((y3 + (-1)) - 1).toInt.toNat 0) (a51.getD (y3 - 1).toInt.toNat 0)).2 (a51.set ((y3 + (-1)) - 1).toInt.toNat (kl_combine f43_10 (a48.getD y4.toInt.toNat 0) (a51.getD ((y3 + (-1)) - 1).toInt.toNat 0) (a51.getD (y3 - 1).toInt.toNat 0)).1)) else (0, (kl_combine f43_10 (a48.getD y4.toInt.toNat 0) (a51.getD ((y3 + (-1)) - 1).toInt.toNat 0) (a51.getD (y3 - 1).toInt.toNat 0)).2, (a51.set ((y3 + (-1)) - 1).toInt.toNat (kl_combine f43_10 (a48.getD y4.toInt.toNat 0) (a51.getD ((y3 + (-1)) - 1).toInt.toNat 0) (a51.getD (y3 - 1).toInt.toNat 0)).1)))))))))) else (if y3.toInt < 1 then (0, f43_10, a51) else ((a51.getD (y3 - 1).toInt.toNat 0), f43_10, a51))) else (if y3.toInt < 1 then (0, f43_10, a51) else ((a51.getD (y3 - 1).toInt.toNat 0), f43_10, a51)))
theorem t_kl_reckon_10 {f : Nat} {Q : Option Value → sm_H → Prop} : ∀ (m : Nat) (B : Nat) {D : Nat} {F : Nat → Nat → Int32} {A : Nat → List Int32} {L : Nat → List Int64} {x1 : Int32} {x2 : Int32} {y3 : Int32} {y4 : Int32} {o5 : Option Value} {o6 : Option Value}, B ≤ m → (Q (some (.int ((kl_reckon_10 (A 48) (A 49) (A 50) x2 m y3 y4 (F 43 10) (A 51)).1))) (hz (uF F 43 10 ((kl_reckon_10 (A 48) (A 49) (A 50) x2 m y3 y4 (F 43 10) (A 51)).2.1)) (uA A 51 ((kl_reckon_10 (A 48) (A 49) (A 50) x2 m y3 y4 (F 43 10) (A 51)).2.2)) L)) → wl_E f B D mm53.2.2.2.2.2.2.2.2 10 [some (.ref 43), some (.int x1), some (.int x2), some (.int y3), some (.int y4), o5, o6] [] (hz F A L) Q := by
  intro m
  induction m with
  | zero =>
    intro B D F A L x1 x2 y3 y4 o5 o6 hm K
    rw [show B = 0 by omega]
    exact w_0
  | succ m ih =>
    intro B D F A L x1 x2 y3 y4 o5 o6 hm K
    cases B with
    | zero => exact w_0
    | succ B =>
      generalize hT : (kl_reckon_10 (A 48) (A 49) (A 50) x2 (m + 1) y3 y4 (F 43 10) (A 51)) = T at K
      have hE : T = (if y4.toInt < x2.toInt then (if y4.toInt < 240 then (if ((A 48).getD y4.toInt.toNat 0) = 48 then (if y3.toInt < 40 then (kl_reckon_10 (A 48) (A 49) (A 50) x2 m (y3 + 1) (y4 + 1) (F 43 10) ((A 51).set y3.toInt.toNat ((A 49).getD y4.toInt.toNat 0))) else (0, (F 43 10), (A 51))) else (if ((A 48).getD y4.toInt.toNat 0) = 103 then (if y3.toInt < 40 then (kl_reckon_10 (A 48) (A 49) (A 50) x2 m (y3 + 1) (y4 + 1) (F 43 10) ((A 51).set y3.toInt.toNat ((A 50).getD (((A 49).getD y4.toInt.toNat 0) &&& 7).toInt.toNat 0))) else (0, (F 43 10), (A 51))) else (if y3.toInt < 1 then (0, (F 43 10), (A 51)) else (if ((A 48).getD y4.toInt.toNat 0) = 33 then (if ((A 51).getD (y3 - 1).toInt.toNat 0) = 0 then (kl_reckon_10 (A 48) (A 49) (A 50) x2 m y3 (y4 + 1) (F 43 10) ((A 51).set (y3 - 1).toInt.toNat 1)) else (kl_reckon_10 (A 48) (A 49) (A 50) x2 m y3 (y4 + 1) (F 43 10) ((A 51).set (y3 - 1).toInt.toNat 0))) else (if ((A 48).getD y4.toInt.toNat 0) = 38 then (if ((A 48).getD y4.toInt.toNat 0) = 124 then (if ((A 51).getD (y3 - 1).toInt.toNat 0) = 0 then (kl_reckon_10 (A 48) (A 49) (A 50) x2 m (y3 + (-1)) (y4 + 1) (F 43 10) (A 51)) else (kl_reckon_10 (A 48) (A 49) (A 50) x2 m y3 ((kjm_max y4 (((A 49).getD y4.toInt.toNat 0) - 1)) + 1) (F 43 10) (A 51))) else (if ((A 51).getD (y3 - 1).toInt.toNat 0) = 0 then (kl_reckon_10 (A 48) (A 49) (A 50) x2 m y3 ((kjm_max y4 (((A 49).getD y4.toInt.toNat 0) - 1)) + 1) (F 43 10) (A 51)) else (kl_reckon_10 (A 48) (A 49) (A 50) x2 m (y3 + (-1)) (y4 + 1) (F 43 10) (A 51)))) else (if ((A 48).getD y4.toInt.toNat 0) = 124 then (if ((A 51).getD (y3 - 1).toInt.toNat 0) = 0 then (kl_reckon_10 (A 48) (A 49) (A 50) x2 m (y3 + (-1)) (y4 + 1) (F 43 10) (A 51)) else (kl_reckon_10 (A 48) (A 49) (A 50) x2 m y3 ((kjm_max y4 (((A 49).getD y4.toInt.toNat 0) - 1)) + 1) (F 43 10) (A 51))) else (if y3.toInt < 2 then (0, (F 43 10), (A 51)) else (if (kl_combine (F 43 10) ((A 48).getD y4.toInt.toNat 0) ((A 51).getD ((y3 + (-1)) - 1).toInt.toNat 0) ((A 51).getD (y3 - 1).toInt.toNat 0)).2 = 0 then (kl_reckon_10 (A 48) (A 49) (A 50) x2 m (y3 + (-1)) (y4 + 1) (kl_combine (F 43 10) ((A 48).getD y4.toInt.toNat 0) ((A 51).getD ((y3 + (-1)) - 1).toInt.toNat 0) ((A 51).getD (y3 - 1).toInt.toNat 0)).2 ((A 51).set ((y3 + (-1)) - 1).toInt.toNat (kl_combine (F 43 10) ((A 48).getD y4.toInt.toNat 0) ((A 51).getD ((y3 + (-1)) - 1).toInt.toNat 0) ((A 51).getD (y3 - 1).toInt.toNat 0)).1)) else (0, (kl_combine (F 43 10) ((A 48).getD y4.toInt.toNat 0) ((A 51).getD ((y3 + (-1)) - 1).toInt.toNat 0) ((A 51).getD (y3 - 1).toInt.toNat 0)).2, ((A 51).set ((y3 + (-1)) - 1).toInt.toNat (kl_combine (F 43 10) ((A 48).getD y4.toInt.toNat 0) ((A 51).getD ((y3 + (-1)) - 1).toInt.toNat 0) ((A 51).getD (y3 - 1).toInt.toNat 0)).1)))))))))) else (if y3.toInt < 1 then (0, (F 43 10), (A 51)) else (((A 51).getD (y3 - 1).toInt.toNat 0), (F 43 10), (A 51)))) else (if y3.toInt < 1 then (0, (F 43 10), (A 51)) else (((A 51).getD (y3 - 1).toInt.toNat 0), (F 43 10), (A 51)))) := hT.symm
      clear hT
      refine w_n1 (pc1 := 12) (ls1 := [some (.ref 43), some (.int x1), some (.int x2), some (.int y3), some (.int y4), o5, o6]) (st1 := [.int y4]) (hp1 := (hz F A L)) rfl ?_
      refine w_n 1 (pc1 := 13) (ls1 := [some (.ref 43), some (.int x1), some (.int x2), some (.int y3), some (.int y4), o5, o6]) (st1 := [.int x2, .int y4]) (hp1 := (hz F A L)) rfl ?_
      refine w_ge (p3 := 16) rfl rfl (fun h => ?_) (fun h => ?_)
      · have h1 : x2.toInt ≤ y4.toInt := h
        rw [if_neg (Int.not_lt.mpr h1)] at hE
        refine w_n 2 (pc1 := 259) (ls1 := [some (.ref 43), some (.int x1), some (.int x2), some (.int y3), some (.int y4), o5, o6]) (st1 := [.int 1, .int y3]) (hp1 := (hz F A L)) rfl ?_
        refine w_ge (p3 := 262) rfl rfl (fun h => ?_) (fun h => ?_)
        · have h2 : 1 ≤ y3.toInt := h
          rw [if_neg (Int.not_lt.mpr h2)] at hE
          refine w_n 5 (pc1 := 273) (ls1 := [some (.ref 43), some (.int x1), some (.int x2), some (.int y3), some (.int y4), o5, o6]) (st1 := [.int (y3 - 1), .ref 51]) (hp1 := (hz F A L)) rfl ?_
          refine w_al (k := 51) (l := (A 51)) rfl rfl rfl (fun _ => ?_)
          subst T
          exact w_ri rfl (cvQ (funext fun q => funext fun z => if k0 : q = 43 ∧ z = 10 then by obtain ⟨w1, w2⟩ := k0; subst w1; subst w2; exact Eq.trans (b := (F 43 10)) rfl rfl else by unfold uF; simp only [nb2 k0, cond_false]) (funext fun q => if k0 : q = 51 then by subst k0; exact Eq.trans (b := (A 51)) rfl rfl else by unfold uA; simp only [nb1 k0, cond_false]) rfl K)
        · have h2 : y3.toInt < 1 := h
          rw [if_pos h2] at hE
          refine w_n 2 (pc1 := 274) (ls1 := [some (.ref 43), some (.int x1), some (.int x2), some (.int y3), some (.int y4), o5, o6]) (st1 := [.int 0]) (hp1 := (hz F A L)) rfl ?_
          subst T
          exact w_ri rfl (cvQ (funext fun q => funext fun z => if k0 : q = 43 ∧ z = 10 then by obtain ⟨w1, w2⟩ := k0; subst w1; subst w2; exact Eq.trans (b := (F 43 10)) rfl rfl else by unfold uF; simp only [nb2 k0, cond_false]) (funext fun q => if k0 : q = 51 then by subst k0; exact Eq.trans (b := (A 51)) rfl rfl else by unfold uA; simp only [nb1 k0, cond_false]) rfl K)
      · have h1 : y4.toInt < x2.toInt := h
        rw [if_pos h1] at hE
        refine w_n 2 (pc1 := 21) (ls1 := [some (.ref 43), some (.int x1), some (.int x2), some (.int y3), some (.int y4), o5, o6]) (st1 := [.int 240, .int y4]) (hp1 := (hz F A L)) rfl ?_
        refine w_ge (p3 := 24) rfl rfl (fun h => ?_) (fun h => ?_)
        · have h3 : 240 ≤ y4.toInt := h
          rw [if_neg (Int.not_lt.mpr h3)] at hE
          refine w_n 2 (pc1 := 259) (ls1 := [some (.ref 43), some (.int x1), some (.int x2), some (.int y3), some (.int y4), o5, o6]) (st1 := [.int 1, .int y3]) (hp1 := (hz F A L)) rfl ?_
          refine w_ge (p3 := 262) rfl rfl (fun h => ?_) (fun h => ?_)
          · have h4 : 1 ≤ y3.toInt := h
            rw [if_neg (Int.not_lt.mpr h4)] at hE
            refine w_n 5 (pc1 := 273) (ls1 := [some (.ref 43), some (.int x1), some (.int x2), some (.int y3), some (.int y4), o5, o6]) (st1 := [.int (y3 - 1), .ref 51]) (hp1 := (hz F A L)) rfl ?_
            refine w_al (k := 51) (l := (A 51)) rfl rfl rfl (fun _ => ?_)
            subst T
            exact w_ri rfl (cvQ (funext fun q => funext fun z => if k0 : q = 43 ∧ z = 10 then by obtain ⟨w1, w2⟩ := k0; subst w1; subst w2; exact Eq.trans (b := (F 43 10)) rfl rfl else by unfold uF; simp only [nb2 k0, cond_false]) (funext fun q => if k0 : q = 51 then by subst k0; exact Eq.trans (b := (A 51)) rfl rfl else by unfold uA; simp only [nb1 k0, cond_false]) rfl K)
          · have h4 : y3.toInt < 1 := h
            rw [if_pos h4] at hE
            refine w_n 2 (pc1 := 274) (ls1 := [some (.ref 43), some (.int x1), some (.int x2), some (.int y3), some (.int y4), o5, o6]) (st1 := [.int 0]) (hp1 := (hz F A L)) rfl ?_
            subst T
            exact w_ri rfl (cvQ (funext fun q => funext fun z => if k0 : q = 43 ∧ z = 10 then by obtain ⟨w1, w2⟩ := k0; subst w1; subst w2; exact Eq.trans (b := (F 43 10)) rfl rfl else by unfold uF; simp only [nb2 k0, cond_false]) (funext fun q => if k0 : q = 51 then by subst k0; exact Eq.trans (b := (A 51)) rfl rfl else by unfold uA; simp only [nb1 k0, cond_false]) rfl K)
        · have h3 : y4.toInt < 240 := h
          rw [if_pos h3] at hE
          refine w_n 3 (pc1 := 30) (ls1 := [some (.ref 43), some (.int x1), some (.int x2), some (.int y3), some (.int y4), o5, o6]) (st1 := [.int y4, .ref 48]) (hp1 := (hz F A L)) rfl ?_
          refine w_al (k := 48) (l := (A 48)) rfl rfl rfl (fun _ => ?_)
          refine w_n 3 (pc1 := 37) (ls1 := [some (.ref 43), some (.int x1), some (.int x2), some (.int y3), some (.int y4), some (.int ((A 48).getD y4.toInt.toNat 0)), o6]) (st1 := [.int 48, .int ((A 48).getD y4.toInt.toNat 0)]) (hp1 := (hz F A L)) rfl ?_
          refine w_eq (p3 := 40) rfl rfl (fun h => ?_) (fun h => ?_)
          · have h5 : ((A 48).getD y4.toInt.toNat 0) = 48 := h
            rw [if_pos h5] at hE
            refine w_n 2 (pc1 := 50) (ls1 := [some (.ref 43), some (.int x1), some (.int x2), some (.int y3), some (.int y4), some (.int ((A 48).getD y4.toInt.toNat 0)), o6]) (st1 := [.int 40, .int y3]) (hp1 := (hz F A L)) rfl ?_
            refine w_lt (p3 := 53) rfl rfl (fun h => ?_) (fun h => ?_)
            · have h6 : y3.toInt < 40 := h
              rw [if_pos h6] at hE
              refine w_n 5 (pc1 := 64) (ls1 := [some (.ref 43), some (.int x1), some (.int x2), some (.int y3), some (.int y4), some (.int ((A 48).getD y4.toInt.toNat 0)), o6]) (st1 := [.int 48, .int ((A 48).getD y4.toInt.toNat 0), .int y3, .ref 51]) (hp1 := (hz F A L)) rfl ?_
              refine w_ne (p3 := 67) rfl rfl (fun h => absurd h5 h) (fun _ => ?_)
              refine w_n 3 (pc1 := 73) (ls1 := [some (.ref 43), some (.int x1), some (.int x2), some (.int y3), some (.int y4), some (.int ((A 48).getD y4.toInt.toNat 0)), o6]) (st1 := [.int y4, .ref 49, .int y3, .ref 51]) (hp1 := (hz F A L)) rfl ?_
              refine w_al (k := 49) (l := (A 49)) rfl rfl rfl (fun _ => ?_)
              refine w_n 1 (pc1 := 92) (ls1 := [some (.ref 43), some (.int x1), some (.int x2), some (.int y3), some (.int y4), some (.int ((A 48).getD y4.toInt.toNat 0)), o6]) (st1 := [.int ((A 49).getD y4.toInt.toNat 0), .int y3, .ref 51]) (hp1 := (hz F A L)) rfl ?_
              refine w_as (k := 51) (l := (A 51)) (hp1 := (hz F (uA A 51 ((A 51).set y3.toInt.toNat ((A 49).getD y4.toInt.toNat 0))) L)) rfl rfl rfl (hz_s51 _) (fun _ => ?_)
              refine w_n 4 (pc1 := 10) (ls1 := [some (.ref 43), some (.int x1), some (.int x2), some (.int (y3 + 1)), some (.int (y4 + 1)), some (.int ((A 48).getD y4.toInt.toNat 0)), o6]) (st1 := []) (hp1 := (hz F (uA A 51 ((A 51).set y3.toInt.toNat ((A 49).getD y4.toInt.toNat 0))) L)) rfl ?_
              subst T
              exact ih _ (by omega) (cvQ (funext fun q => funext fun z => if k0 : q = 43 ∧ z = 10 then by obtain ⟨w1, w2⟩ := k0; subst w1; subst w2; exact Eq.trans (b := (kl_reckon_10 (A 48) (A 49) (A 50) x2 m (y3 + 1) (y4 + 1) (F 43 10) ((A 51).set y3.toInt.toNat ((A 49).getD y4.toInt.toNat 0))).2.1) rfl rfl else by unfold uF; simp only [nb2 k0, cond_false]) (funext fun q => if k0 : q = 51 then by subst k0; exact Eq.trans (b := (kl_reckon_10 (A 48) (A 49) (A 50) x2 m (y3 + 1) (y4 + 1) (F 43 10) ((A 51).set y3.toInt.toNat ((A 49).getD y4.toInt.toNat 0))).2.2) rfl rfl else by unfold uA; simp only [nb1 k0, cond_false]) rfl K)
            · have h6 : 40 ≤ y3.toInt := h
              rw [if_neg (Int.not_lt.mpr h6)] at hE
              refine w_n 1 (pc1 := 54) (ls1 := [some (.ref 43), some (.int x1), some (.int x2), some (.int y3), some (.int y4), some (.int ((A 48).getD y4.toInt.toNat 0)), o6]) (st1 := [.int 0]) (hp1 := (hz F A L)) rfl ?_
              subst T
              exact w_ri rfl (cvQ (funext fun q => funext fun z => if k0 : q = 43 ∧ z = 10 then by obtain ⟨w1, w2⟩ := k0; subst w1; subst w2; exact Eq.trans (b := (F 43 10)) rfl rfl else by unfold uF; simp only [nb2 k0, cond_false]) (funext fun q => if k0 : q = 51 then by subst k0; exact Eq.trans (b := (A 51)) rfl rfl else by unfold uA; simp only [nb1 k0, cond_false]) rfl K)
          · have h5 : ¬ ((A 48).getD y4.toInt.toNat 0) = 48 := h
            rw [if_neg h5] at hE
            refine w_n 2 (pc1 := 44) (ls1 := [some (.ref 43), some (.int x1), some (.int x2), some (.int y3), some (.int y4), some (.int ((A 48).getD y4.toInt.toNat 0)), o6]) (st1 := [.int 103, .int ((A 48).getD y4.toInt.toNat 0)]) (hp1 := (hz F A L)) rfl ?_
            refine w_ne (p3 := 47) rfl rfl (fun h => ?_) (fun h => ?_)
            · have h7 : ¬ ((A 48).getD y4.toInt.toNat 0) = 103 := h
              rw [if_neg h7] at hE
              refine w_n 2 (pc1 := 101) (ls1 := [some (.ref 43), some (.int x1), some (.int x2), some (.int y3), some (.int y4), some (.int ((A 48).getD y4.toInt.toNat 0)), o6]) (st1 := [.int 1, .int y3]) (hp1 := (hz F A L)) rfl ?_
              refine w_ge (p3 := 104) rfl rfl (fun h => ?_) (fun h => ?_)
              · have h8 : 1 ≤ y3.toInt := h
                rw [if_neg (Int.not_lt.mpr h8)] at hE
                refine w_n 5 (pc1 := 113) (ls1 := [some (.ref 43), some (.int x1), some (.int x2), some (.int y3), some (.int y4), some (.int ((A 48).getD y4.toInt.toNat 0)), o6]) (st1 := [.int (y3 - 1), .ref 51]) (hp1 := (hz F A L)) rfl ?_
                refine w_al (k := 51) (l := (A 51)) rfl rfl rfl (fun _ => ?_)
                refine w_n 3 (pc1 := 120) (ls1 := [some (.ref 43), some (.int x1), some (.int x2), some (.int y3), some (.int y4), some (.int ((A 48).getD y4.toInt.toNat 0)), some (.int ((A 51).getD (y3 - 1).toInt.toNat 0))]) (st1 := [.int 33, .int ((A 48).getD y4.toInt.toNat 0)]) (hp1 := (hz F A L)) rfl ?_
                refine w_ne (p3 := 123) rfl rfl (fun h => ?_) (fun h => ?_)
                · have h9 : ¬ ((A 48).getD y4.toInt.toNat 0) = 33 := h
                  rw [if_neg h9] at hE
                  refine w_n 2 (pc1 := 148) (ls1 := [some (.ref 43), some (.int x1), some (.int x2), some (.int y3), some (.int y4), some (.int ((A 48).getD y4.toInt.toNat 0)), some (.int ((A 51).getD (y3 - 1).toInt.toNat 0))]) (st1 := [.int 38, .int ((A 48).getD y4.toInt.toNat 0)]) (hp1 := (hz F A L)) rfl ?_
                  refine w_eq (p3 := 151) rfl rfl (fun h => ?_) (fun h => ?_)
                  · have h10 : ((A 48).getD y4.toInt.toNat 0) = 38 := h
                    rw [if_pos h10] at hE
                    refine w_n 2 (pc1 := 162) (ls1 := [some (.ref 43), some (.int x1), some (.int x2), some (.int y3), some (.int y4), some (.int ((A 48).getD y4.toInt.toNat 0)), some (.int ((A 51).getD (y3 - 1).toInt.toNat 0))]) (st1 := [.int 124, .int ((A 48).getD y4.toInt.toNat 0)]) (hp1 := (hz F A L)) rfl ?_
                    refine w_ne (p3 := 165) rfl rfl (fun h => ?_) (fun h => ?_)
                    · have h11 : ¬ ((A 48).getD y4.toInt.toNat 0) = 124 := h
                      rw [if_neg h11] at hE
                      refine w_n 2 (pc1 := 172) (ls1 := [some (.ref 43), some (.int x1), some (.int x2), some (.int y3), some (.int y4), some (.int ((A 48).getD y4.toInt.toNat 0)), some (.int ((A 51).getD (y3 - 1).toInt.toNat 0))]) (st1 := [.int ((A 51).getD (y3 - 1).toInt.toNat 0), .int 0]) (hp1 := (hz F A L)) rfl ?_
                      refine w_zeq (p3 := 175) rfl rfl (fun h => ?_) (fun h => ?_)
                      · have h12 : ((A 51).getD (y3 - 1).toInt.toNat 0) = 0 := h
                        rw [if_pos h12] at hE
                        refine w_n 1 (pc1 := 180) (ls1 := [some (.ref 43), some (.int x1), some (.int x2), some (.int y3), some (.int y4), some (.int ((A 48).getD y4.toInt.toNat 0)), some (.int ((A 51).getD (y3 - 1).toInt.toNat 0))]) (st1 := [.int 0, .int 0]) (hp1 := (hz F A L)) rfl ?_
                        refine w_ne (p3 := 183) rfl rfl (fun h => absurd h (by decide)) (fun _ => ?_)
                        refine w_n 4 (pc1 := 191) (ls1 := [some (.ref 43), some (.int x1), some (.int x2), some (.int y3), some (.int y4), some (.int ((A 48).getD y4.toInt.toNat 0)), some (.int ((A 51).getD (y3 - 1).toInt.toNat 0))]) (st1 := [.int y4, .ref 49, .int y4]) (hp1 := (hz F A L)) rfl ?_
                        refine w_al (k := 49) (l := (A 49)) rfl rfl rfl (fun _ => ?_)
                        refine w_n 2 (pc1 := 194) (ls1 := [some (.ref 43), some (.int x1), some (.int x2), some (.int y3), some (.int y4), some (.int ((A 48).getD y4.toInt.toNat 0)), some (.int ((A 51).getD (y3 - 1).toInt.toNat 0))]) (st1 := [.int (((A 49).getD y4.toInt.toNat 0) - 1), .int y4]) (hp1 := (hz F A L)) rfl ?_
                        refine w_c rfl rfl (t_kjm_max ?_)
                        show wl_E f _ _ mm53.2.2.2.2.2.2.2.2 197 [some (.ref 43), some (.int x1), some (.int x2), some (.int y3), some (.int y4), some (.int ((A 48).getD y4.toInt.toNat 0)), some (.int ((A 51).getD (y3 - 1).toInt.toNat 0))] [.int (kjm_max y4 (((A 49).getD y4.toInt.toNat 0) - 1))] (hz F A L) _
                        generalize hG37 : (kjm_max y4 (((A 49).getD y4.toInt.toNat 0) - 1)) = G37 at hE ⊢
                        refine w_n 4 (pc1 := 10) (ls1 := [some (.ref 43), some (.int x1), some (.int x2), some (.int y3), some (.int (G37 + 1)), some (.int ((A 48).getD y4.toInt.toNat 0)), some (.int ((A 51).getD (y3 - 1).toInt.toNat 0))]) (st1 := []) (hp1 := (hz F A L)) rfl ?_
                        subst T
                        exact ih _ (by omega) (cvQ (funext fun q => funext fun z => if k0 : q = 43 ∧ z = 10 then by obtain ⟨w1, w2⟩ := k0; subst w1; subst w2; exact Eq.trans (b := (kl_reckon_10 (A 48) (A 49) (A 50) x2 m y3 (G37 + 1) (F 43 10) (A 51)).2.1) rfl rfl else by unfold uF; simp only [nb2 k0, cond_false]) (funext fun q => if k0 : q = 51 then by subst k0; exact Eq.trans (b := (kl_reckon_10 (A 48) (A 49) (A 50) x2 m y3 (G37 + 1) (F 43 10) (A 51)).2.2) rfl rfl else by unfold uA; simp only [nb1 k0, cond_false]) rfl K)
                      · have h12 : ¬ ((A 51).getD (y3 - 1).toInt.toNat 0) = 0 := h
                        rw [if_neg h12] at hE
                        refine w_n 2 (pc1 := 180) (ls1 := [some (.ref 43), some (.int x1), some (.int x2), some (.int y3), some (.int y4), some (.int ((A 48).getD y4.toInt.toNat 0)), some (.int ((A 51).getD (y3 - 1).toInt.toNat 0))]) (st1 := [.int 1, .int 0]) (hp1 := (hz F A L)) rfl ?_
                        refine w_ne (p3 := 183) rfl rfl (fun _ => ?_) (fun h => absurd h (by decide))
                        refine w_n 4 (pc1 := 10) (ls1 := [some (.ref 43), some (.int x1), some (.int x2), some (.int (y3 + (-1))), some (.int (y4 + 1)), some (.int ((A 48).getD y4.toInt.toNat 0)), some (.int ((A 51).getD (y3 - 1).toInt.toNat 0))]) (st1 := []) (hp1 := (hz F A L)) rfl ?_
                        subst T
                        exact ih _ (by omega) (cvQ (funext fun q => funext fun z => if k0 : q = 43 ∧ z = 10 then by obtain ⟨w1, w2⟩ := k0; subst w1; subst w2; exact Eq.trans (b := (kl_reckon_10 (A 48) (A 49) (A 50) x2 m (y3 + (-1)) (y4 + 1) (F 43 10) (A 51)).2.1) rfl rfl else by unfold uF; simp only [nb2 k0, cond_false]) (funext fun q => if k0 : q = 51 then by subst k0; exact Eq.trans (b := (kl_reckon_10 (A 48) (A 49) (A 50) x2 m (y3 + (-1)) (y4 + 1) (F 43 10) (A 51)).2.2) rfl rfl else by unfold uA; simp only [nb1 k0, cond_false]) rfl K)
                    · have h11 : ((A 48).getD y4.toInt.toNat 0) = 124 := h
                      rw [if_pos h11] at hE
                      refine w_n 3 (pc1 := 172) (ls1 := [some (.ref 43), some (.int x1), some (.int x2), some (.int y3), some (.int y4), some (.int ((A 48).getD y4.toInt.toNat 0)), some (.int ((A 51).getD (y3 - 1).toInt.toNat 0))]) (st1 := [.int ((A 51).getD (y3 - 1).toInt.toNat 0), .int 1]) (hp1 := (hz F A L)) rfl ?_
                      refine w_zeq (p3 := 175) rfl rfl (fun h => ?_) (fun h => ?_)
                      · have h13 : ((A 51).getD (y3 - 1).toInt.toNat 0) = 0 := h
                        rw [if_pos h13] at hE
                        refine w_n 1 (pc1 := 180) (ls1 := [some (.ref 43), some (.int x1), some (.int x2), some (.int y3), some (.int y4), some (.int ((A 48).getD y4.toInt.toNat 0)), some (.int ((A 51).getD (y3 - 1).toInt.toNat 0))]) (st1 := [.int 0, .int 1]) (hp1 := (hz F A L)) rfl ?_
                        refine w_ne (p3 := 183) rfl rfl (fun _ => ?_) (fun h => absurd h (by decide))
                        refine w_n 4 (pc1 := 10) (ls1 := [some (.ref 43), some (.int x1), some (.int x2), some (.int (y3 + (-1))), some (.int (y4 + 1)), some (.int ((A 48).getD y4.toInt.toNat 0)), some (.int ((A 51).getD (y3 - 1).toInt.toNat 0))]) (st1 := []) (hp1 := (hz F A L)) rfl ?_
                        subst T
                        exact ih _ (by omega) (cvQ (funext fun q => funext fun z => if k0 : q = 43 ∧ z = 10 then by obtain ⟨w1, w2⟩ := k0; subst w1; subst w2; exact Eq.trans (b := (kl_reckon_10 (A 48) (A 49) (A 50) x2 m (y3 + (-1)) (y4 + 1) (F 43 10) (A 51)).2.1) rfl rfl else by unfold uF; simp only [nb2 k0, cond_false]) (funext fun q => if k0 : q = 51 then by subst k0; exact Eq.trans (b := (kl_reckon_10 (A 48) (A 49) (A 50) x2 m (y3 + (-1)) (y4 + 1) (F 43 10) (A 51)).2.2) rfl rfl else by unfold uA; simp only [nb1 k0, cond_false]) rfl K)
                      · have h13 : ¬ ((A 51).getD (y3 - 1).toInt.toNat 0) = 0 := h
                        rw [if_neg h13] at hE
                        refine w_n 2 (pc1 := 180) (ls1 := [some (.ref 43), some (.int x1), some (.int x2), some (.int y3), some (.int y4), some (.int ((A 48).getD y4.toInt.toNat 0)), some (.int ((A 51).getD (y3 - 1).toInt.toNat 0))]) (st1 := [.int 1, .int 1]) (hp1 := (hz F A L)) rfl ?_
                        refine w_ne (p3 := 183) rfl rfl (fun h => absurd h (by decide)) (fun _ => ?_)
                        refine w_n 4 (pc1 := 191) (ls1 := [some (.ref 43), some (.int x1), some (.int x2), some (.int y3), some (.int y4), some (.int ((A 48).getD y4.toInt.toNat 0)), some (.int ((A 51).getD (y3 - 1).toInt.toNat 0))]) (st1 := [.int y4, .ref 49, .int y4]) (hp1 := (hz F A L)) rfl ?_
                        refine w_al (k := 49) (l := (A 49)) rfl rfl rfl (fun _ => ?_)
                        refine w_n 2 (pc1 := 194) (ls1 := [some (.ref 43), some (.int x1), some (.int x2), some (.int y3), some (.int y4), some (.int ((A 48).getD y4.toInt.toNat 0)), some (.int ((A 51).getD (y3 - 1).toInt.toNat 0))]) (st1 := [.int (((A 49).getD y4.toInt.toNat 0) - 1), .int y4]) (hp1 := (hz F A L)) rfl ?_
                        refine w_c rfl rfl (t_kjm_max ?_)
                        show wl_E f _ _ mm53.2.2.2.2.2.2.2.2 197 [some (.ref 43), some (.int x1), some (.int x2), some (.int y3), some (.int y4), some (.int ((A 48).getD y4.toInt.toNat 0)), some (.int ((A 51).getD (y3 - 1).toInt.toNat 0))] [.int (kjm_max y4 (((A 49).getD y4.toInt.toNat 0) - 1))] (hz F A L) _
                        generalize hG38 : (kjm_max y4 (((A 49).getD y4.toInt.toNat 0) - 1)) = G38 at hE ⊢
                        refine w_n 4 (pc1 := 10) (ls1 := [some (.ref 43), some (.int x1), some (.int x2), some (.int y3), some (.int (G38 + 1)), some (.int ((A 48).getD y4.toInt.toNat 0)), some (.int ((A 51).getD (y3 - 1).toInt.toNat 0))]) (st1 := []) (hp1 := (hz F A L)) rfl ?_
                        subst T
                        exact ih _ (by omega) (cvQ (funext fun q => funext fun z => if k0 : q = 43 ∧ z = 10 then by obtain ⟨w1, w2⟩ := k0; subst w1; subst w2; exact Eq.trans (b := (kl_reckon_10 (A 48) (A 49) (A 50) x2 m y3 (G38 + 1) (F 43 10) (A 51)).2.1) rfl rfl else by unfold uF; simp only [nb2 k0, cond_false]) (funext fun q => if k0 : q = 51 then by subst k0; exact Eq.trans (b := (kl_reckon_10 (A 48) (A 49) (A 50) x2 m y3 (G38 + 1) (F 43 10) (A 51)).2.2) rfl rfl else by unfold uA; simp only [nb1 k0, cond_false]) rfl K)
                  · have h10 : ¬ ((A 48).getD y4.toInt.toNat 0) = 38 := h
                    rw [if_neg h10] at hE
                    refine w_n 2 (pc1 := 155) (ls1 := [some (.ref 43), some (.int x1), some (.int x2), some (.int y3), some (.int y4), some (.int ((A 48).getD y4.toInt.toNat 0)), some (.int ((A 51).getD (y3 - 1).toInt.toNat 0))]) (st1 := [.int 124, .int ((A 48).getD y4.toInt.toNat 0)]) (hp1 := (hz F A L)) rfl ?_
                    refine w_ne (p3 := 158) rfl rfl (fun h => ?_) (fun h => ?_)
                    · have h14 : ¬ ((A 48).getD y4.toInt.toNat 0) = 124 := h
                      rw [if_neg h14] at hE
                      refine w_n 2 (pc1 := 210) (ls1 := [some (.ref 43), some (.int x1), some (.int x2), some (.int y3), some (.int y4), some (.int ((A 48).getD y4.toInt.toNat 0)), some (.int ((A 51).getD (y3 - 1).toInt.toNat 0))]) (st1 := [.int 2, .int y3]) (hp1 := (hz F A L)) rfl ?_
                      refine w_ge (p3 := 213) rfl rfl (fun h => ?_) (fun h => ?_)
                      · have h15 : 2 ≤ y3.toInt := h
                        rw [if_neg (Int.not_lt.mpr h15)] at hE
                        refine w_n 13 (pc1 := 235) (ls1 := [some (.ref 43), some (.int x1), some (.int x2), some (.int (y3 + (-1))), some (.int y4), some (.int ((A 48).getD y4.toInt.toNat 0)), some (.int ((A 51).getD (y3 - 1).toInt.toNat 0))]) (st1 := [.int ((y3 + (-1)) - 1), .ref 51, .int ((A 48).getD y4.toInt.toNat 0), .ref 43, .int ((y3 + (-1)) - 1), .ref 51]) (hp1 := (hz F A L)) rfl ?_
                        refine w_al (k := 51) (l := (A 51)) rfl rfl rfl (fun _ => ?_)
                        refine w_n 1 (pc1 := 238) (ls1 := [some (.ref 43), some (.int x1), some (.int x2), some (.int (y3 + (-1))), some (.int y4), some (.int ((A 48).getD y4.toInt.toNat 0)), some (.int ((A 51).getD (y3 - 1).toInt.toNat 0))]) (st1 := [.int ((A 51).getD (y3 - 1).toInt.toNat 0), .int ((A 51).getD ((y3 + (-1)) - 1).toInt.toNat 0), .int ((A 48).getD y4.toInt.toNat 0), .ref 43, .int ((y3 + (-1)) - 1), .ref 51]) (hp1 := (hz F A L)) rfl ?_
                        refine w_c rfl rfl (t_kl_combine ?_)
                        show wl_E f _ _ mm53.2.2.2.2.2.2.2.2 241 [some (.ref 43), some (.int x1), some (.int x2), some (.int (y3 + (-1))), some (.int y4), some (.int ((A 48).getD y4.toInt.toNat 0)), some (.int ((A 51).getD (y3 - 1).toInt.toNat 0))] [.int (kl_combine (F 43 10) ((A 48).getD y4.toInt.toNat 0) ((A 51).getD ((y3 + (-1)) - 1).toInt.toNat 0) ((A 51).getD (y3 - 1).toInt.toNat 0)).1, .int ((y3 + (-1)) - 1), .ref 51] (hz (uF F 43 10 (kl_combine (F 43 10) ((A 48).getD y4.toInt.toNat 0) ((A 51).getD ((y3 + (-1)) - 1).toInt.toNat 0) ((A 51).getD (y3 - 1).toInt.toNat 0)).2) A L) _
                        generalize hG39 : (kl_combine (F 43 10) ((A 48).getD y4.toInt.toNat 0) ((A 51).getD ((y3 + (-1)) - 1).toInt.toNat 0) ((A 51).getD (y3 - 1).toInt.toNat 0)) = G39 at hE ⊢
                        refine w_as (k := 51) (l := (A 51)) (hp1 := (hz (uF F 43 10 G39.2) (uA A 51 ((A 51).set ((y3 + (-1)) - 1).toInt.toNat G39.1)) L)) rfl rfl rfl (hz_s51 _) (fun _ => ?_)
                        refine w_n 2 (pc1 := 246) (ls1 := [some (.ref 43), some (.int x1), some (.int x2), some (.int (y3 + (-1))), some (.int y4), some (.int ((A 48).getD y4.toInt.toNat 0)), some (.int ((A 51).getD (y3 - 1).toInt.toNat 0))]) (st1 := [.int G39.2]) (hp1 := (hz (uF F 43 10 G39.2) (uA A 51 ((A 51).set ((y3 + (-1)) - 1).toInt.toNat G39.1)) L)) rfl ?_
                        refine w_zeq (p3 := 249) rfl rfl (fun h => ?_) (fun h => ?_)
                        · have h16 : G39.2 = 0 := h
                          rw [if_pos h16] at hE
                          refine w_n 2 (pc1 := 10) (ls1 := [some (.ref 43), some (.int x1), some (.int x2), some (.int (y3 + (-1))), some (.int (y4 + 1)), some (.int ((A 48).getD y4.toInt.toNat 0)), some (.int ((A 51).getD (y3 - 1).toInt.toNat 0))]) (st1 := []) (hp1 := (hz (uF F 43 10 G39.2) (uA A 51 ((A 51).set ((y3 + (-1)) - 1).toInt.toNat G39.1)) L)) rfl ?_
                          subst T
                          exact ih _ (by omega) (cvQ (funext fun q => funext fun z => if k0 : q = 43 ∧ z = 10 then by obtain ⟨w1, w2⟩ := k0; subst w1; subst w2; exact Eq.trans (b := (kl_reckon_10 (A 48) (A 49) (A 50) x2 m (y3 + (-1)) (y4 + 1) G39.2 ((A 51).set ((y3 + (-1)) - 1).toInt.toNat G39.1)).2.1) rfl rfl else by unfold uF; simp only [nb2 k0, cond_false]) (funext fun q => if k0 : q = 51 then by subst k0; exact Eq.trans (b := (kl_reckon_10 (A 48) (A 49) (A 50) x2 m (y3 + (-1)) (y4 + 1) G39.2 ((A 51).set ((y3 + (-1)) - 1).toInt.toNat G39.1)).2.2) rfl rfl else by unfold uA; simp only [nb1 k0, cond_false]) rfl K)
                        · have h16 : ¬ G39.2 = 0 := h
                          rw [if_neg h16] at hE
                          refine w_n 1 (pc1 := 250) (ls1 := [some (.ref 43), some (.int x1), some (.int x2), some (.int (y3 + (-1))), some (.int y4), some (.int ((A 48).getD y4.toInt.toNat 0)), some (.int ((A 51).getD (y3 - 1).toInt.toNat 0))]) (st1 := [.int 0]) (hp1 := (hz (uF F 43 10 G39.2) (uA A 51 ((A 51).set ((y3 + (-1)) - 1).toInt.toNat G39.1)) L)) rfl ?_
                          subst T
                          exact w_ri rfl (cvQ rfl rfl rfl K)
                      · have h15 : y3.toInt < 2 := h
                        rw [if_pos h15] at hE
                        refine w_n 1 (pc1 := 214) (ls1 := [some (.ref 43), some (.int x1), some (.int x2), some (.int y3), some (.int y4), some (.int ((A 48).getD y4.toInt.toNat 0)), some (.int ((A 51).getD (y3 - 1).toInt.toNat 0))]) (st1 := [.int 0]) (hp1 := (hz F A L)) rfl ?_
                        subst T
                        exact w_ri rfl (cvQ (funext fun q => funext fun z => if k0 : q = 43 ∧ z = 10 then by obtain ⟨w1, w2⟩ := k0; subst w1; subst w2; exact Eq.trans (b := (F 43 10)) rfl rfl else by unfold uF; simp only [nb2 k0, cond_false]) (funext fun q => if k0 : q = 51 then by subst k0; exact Eq.trans (b := (A 51)) rfl rfl else by unfold uA; simp only [nb1 k0, cond_false]) rfl K)
                    · have h14 : ((A 48).getD y4.toInt.toNat 0) = 124 := h
                      rw [if_pos h14] at hE
                      refine w_n 2 (pc1 := 162) (ls1 := [some (.ref 43), some (.int x1), some (.int x2), some (.int y3), some (.int y4), some (.int ((A 48).getD y4.toInt.toNat 0)), some (.int ((A 51).getD (y3 - 1).toInt.toNat 0))]) (st1 := [.int 124, .int ((A 48).getD y4.toInt.toNat 0)]) (hp1 := (hz F A L)) rfl ?_
                      refine w_ne (p3 := 165) rfl rfl (fun h => absurd h14 h) (fun _ => ?_)
                      refine w_n 3 (pc1 := 172) (ls1 := [some (.ref 43), some (.int x1), some (.int x2), some (.int y3), some (.int y4), some (.int ((A 48).getD y4.toInt.toNat 0)), some (.int ((A 51).getD (y3 - 1).toInt.toNat 0))]) (st1 := [.int ((A 51).getD (y3 - 1).toInt.toNat 0), .int 1]) (hp1 := (hz F A L)) rfl ?_
                      refine w_zeq (p3 := 175) rfl rfl (fun h => ?_) (fun h => ?_)
                      · have h17 : ((A 51).getD (y3 - 1).toInt.toNat 0) = 0 := h
                        rw [if_pos h17] at hE
                        refine w_n 1 (pc1 := 180) (ls1 := [some (.ref 43), some (.int x1), some (.int x2), some (.int y3), some (.int y4), some (.int ((A 48).getD y4.toInt.toNat 0)), some (.int ((A 51).getD (y3 - 1).toInt.toNat 0))]) (st1 := [.int 0, .int 1]) (hp1 := (hz F A L)) rfl ?_
                        refine w_ne (p3 := 183) rfl rfl (fun _ => ?_) (fun h => absurd h (by decide))
                        refine w_n 4 (pc1 := 10) (ls1 := [some (.ref 43), some (.int x1), some (.int x2), some (.int (y3 + (-1))), some (.int (y4 + 1)), some (.int ((A 48).getD y4.toInt.toNat 0)), some (.int ((A 51).getD (y3 - 1).toInt.toNat 0))]) (st1 := []) (hp1 := (hz F A L)) rfl ?_
                        subst T
                        exact ih _ (by omega) (cvQ (funext fun q => funext fun z => if k0 : q = 43 ∧ z = 10 then by obtain ⟨w1, w2⟩ := k0; subst w1; subst w2; exact Eq.trans (b := (kl_reckon_10 (A 48) (A 49) (A 50) x2 m (y3 + (-1)) (y4 + 1) (F 43 10) (A 51)).2.1) rfl rfl else by unfold uF; simp only [nb2 k0, cond_false]) (funext fun q => if k0 : q = 51 then by subst k0; exact Eq.trans (b := (kl_reckon_10 (A 48) (A 49) (A 50) x2 m (y3 + (-1)) (y4 + 1) (F 43 10) (A 51)).2.2) rfl rfl else by unfold uA; simp only [nb1 k0, cond_false]) rfl K)
                      · have h17 : ¬ ((A 51).getD (y3 - 1).toInt.toNat 0) = 0 := h
                        rw [if_neg h17] at hE
                        refine w_n 2 (pc1 := 180) (ls1 := [some (.ref 43), some (.int x1), some (.int x2), some (.int y3), some (.int y4), some (.int ((A 48).getD y4.toInt.toNat 0)), some (.int ((A 51).getD (y3 - 1).toInt.toNat 0))]) (st1 := [.int 1, .int 1]) (hp1 := (hz F A L)) rfl ?_
                        refine w_ne (p3 := 183) rfl rfl (fun h => absurd h (by decide)) (fun _ => ?_)
                        refine w_n 4 (pc1 := 191) (ls1 := [some (.ref 43), some (.int x1), some (.int x2), some (.int y3), some (.int y4), some (.int ((A 48).getD y4.toInt.toNat 0)), some (.int ((A 51).getD (y3 - 1).toInt.toNat 0))]) (st1 := [.int y4, .ref 49, .int y4]) (hp1 := (hz F A L)) rfl ?_
                        refine w_al (k := 49) (l := (A 49)) rfl rfl rfl (fun _ => ?_)
                        refine w_n 2 (pc1 := 194) (ls1 := [some (.ref 43), some (.int x1), some (.int x2), some (.int y3), some (.int y4), some (.int ((A 48).getD y4.toInt.toNat 0)), some (.int ((A 51).getD (y3 - 1).toInt.toNat 0))]) (st1 := [.int (((A 49).getD y4.toInt.toNat 0) - 1), .int y4]) (hp1 := (hz F A L)) rfl ?_
                        refine w_c rfl rfl (t_kjm_max ?_)
                        show wl_E f _ _ mm53.2.2.2.2.2.2.2.2 197 [some (.ref 43), some (.int x1), some (.int x2), some (.int y3), some (.int y4), some (.int ((A 48).getD y4.toInt.toNat 0)), some (.int ((A 51).getD (y3 - 1).toInt.toNat 0))] [.int (kjm_max y4 (((A 49).getD y4.toInt.toNat 0) - 1))] (hz F A L) _
                        generalize hG40 : (kjm_max y4 (((A 49).getD y4.toInt.toNat 0) - 1)) = G40 at hE ⊢
                        refine w_n 4 (pc1 := 10) (ls1 := [some (.ref 43), some (.int x1), some (.int x2), some (.int y3), some (.int (G40 + 1)), some (.int ((A 48).getD y4.toInt.toNat 0)), some (.int ((A 51).getD (y3 - 1).toInt.toNat 0))]) (st1 := []) (hp1 := (hz F A L)) rfl ?_
                        subst T
                        exact ih _ (by omega) (cvQ (funext fun q => funext fun z => if k0 : q = 43 ∧ z = 10 then by obtain ⟨w1, w2⟩ := k0; subst w1; subst w2; exact Eq.trans (b := (kl_reckon_10 (A 48) (A 49) (A 50) x2 m y3 (G40 + 1) (F 43 10) (A 51)).2.1) rfl rfl else by unfold uF; simp only [nb2 k0, cond_false]) (funext fun q => if k0 : q = 51 then by subst k0; exact Eq.trans (b := (kl_reckon_10 (A 48) (A 49) (A 50) x2 m y3 (G40 + 1) (F 43 10) (A 51)).2.2) rfl rfl else by unfold uA; simp only [nb1 k0, cond_false]) rfl K)
                · have h9 : ((A 48).getD y4.toInt.toNat 0) = 33 := h
                  rw [if_pos h9] at hE
                  refine w_n 6 (pc1 := 132) (ls1 := [some (.ref 43), some (.int x1), some (.int x2), some (.int y3), some (.int y4), some (.int ((A 48).getD y4.toInt.toNat 0)), some (.int ((A 51).getD (y3 - 1).toInt.toNat 0))]) (st1 := [.int ((A 51).getD (y3 - 1).toInt.toNat 0), .int (y3 - 1), .ref 51]) (hp1 := (hz F A L)) rfl ?_
                  refine w_zne (p3 := 135) rfl rfl (fun h => ?_) (fun h => ?_)
                  · have h18 : ¬ ((A 51).getD (y3 - 1).toInt.toNat 0) = 0 := h
                    rw [if_neg h18] at hE
                    refine w_n 1 (pc1 := 140) (ls1 := [some (.ref 43), some (.int x1), some (.int x2), some (.int y3), some (.int y4), some (.int ((A 48).getD y4.toInt.toNat 0)), some (.int ((A 51).getD (y3 - 1).toInt.toNat 0))]) (st1 := [.int 0, .int (y3 - 1), .ref 51]) (hp1 := (hz F A L)) rfl ?_
                    refine w_as (k := 51) (l := (A 51)) (hp1 := (hz F (uA A 51 ((A 51).set (y3 - 1).toInt.toNat 0)) L)) rfl rfl rfl (hz_s51 _) (fun _ => ?_)
                    refine w_n 3 (pc1 := 10) (ls1 := [some (.ref 43), some (.int x1), some (.int x2), some (.int y3), some (.int (y4 + 1)), some (.int ((A 48).getD y4.toInt.toNat 0)), some (.int ((A 51).getD (y3 - 1).toInt.toNat 0))]) (st1 := []) (hp1 := (hz F (uA A 51 ((A 51).set (y3 - 1).toInt.toNat 0)) L)) rfl ?_
                    subst T
                    exact ih _ (by omega) (cvQ (funext fun q => funext fun z => if k0 : q = 43 ∧ z = 10 then by obtain ⟨w1, w2⟩ := k0; subst w1; subst w2; exact Eq.trans (b := (kl_reckon_10 (A 48) (A 49) (A 50) x2 m y3 (y4 + 1) (F 43 10) ((A 51).set (y3 - 1).toInt.toNat 0)).2.1) rfl rfl else by unfold uF; simp only [nb2 k0, cond_false]) (funext fun q => if k0 : q = 51 then by subst k0; exact Eq.trans (b := (kl_reckon_10 (A 48) (A 49) (A 50) x2 m y3 (y4 + 1) (F 43 10) ((A 51).set (y3 - 1).toInt.toNat 0)).2.2) rfl rfl else by unfold uA; simp only [nb1 k0, cond_false]) rfl K)
                  · have h18 : ((A 51).getD (y3 - 1).toInt.toNat 0) = 0 := h
                    rw [if_pos h18] at hE
                    refine w_n 2 (pc1 := 140) (ls1 := [some (.ref 43), some (.int x1), some (.int x2), some (.int y3), some (.int y4), some (.int ((A 48).getD y4.toInt.toNat 0)), some (.int ((A 51).getD (y3 - 1).toInt.toNat 0))]) (st1 := [.int 1, .int (y3 - 1), .ref 51]) (hp1 := (hz F A L)) rfl ?_
                    refine w_as (k := 51) (l := (A 51)) (hp1 := (hz F (uA A 51 ((A 51).set (y3 - 1).toInt.toNat 1)) L)) rfl rfl rfl (hz_s51 _) (fun _ => ?_)
                    refine w_n 3 (pc1 := 10) (ls1 := [some (.ref 43), some (.int x1), some (.int x2), some (.int y3), some (.int (y4 + 1)), some (.int ((A 48).getD y4.toInt.toNat 0)), some (.int ((A 51).getD (y3 - 1).toInt.toNat 0))]) (st1 := []) (hp1 := (hz F (uA A 51 ((A 51).set (y3 - 1).toInt.toNat 1)) L)) rfl ?_
                    subst T
                    exact ih _ (by omega) (cvQ (funext fun q => funext fun z => if k0 : q = 43 ∧ z = 10 then by obtain ⟨w1, w2⟩ := k0; subst w1; subst w2; exact Eq.trans (b := (kl_reckon_10 (A 48) (A 49) (A 50) x2 m y3 (y4 + 1) (F 43 10) ((A 51).set (y3 - 1).toInt.toNat 1)).2.1) rfl rfl else by unfold uF; simp only [nb2 k0, cond_false]) (funext fun q => if k0 : q = 51 then by subst k0; exact Eq.trans (b := (kl_reckon_10 (A 48) (A 49) (A 50) x2 m y3 (y4 + 1) (F 43 10) ((A 51).set (y3 - 1).toInt.toNat 1)).2.2) rfl rfl else by unfold uA; simp only [nb1 k0, cond_false]) rfl K)
              · have h8 : y3.toInt < 1 := h
                rw [if_pos h8] at hE
                refine w_n 1 (pc1 := 105) (ls1 := [some (.ref 43), some (.int x1), some (.int x2), some (.int y3), some (.int y4), some (.int ((A 48).getD y4.toInt.toNat 0)), o6]) (st1 := [.int 0]) (hp1 := (hz F A L)) rfl ?_
                subst T
                exact w_ri rfl (cvQ (funext fun q => funext fun z => if k0 : q = 43 ∧ z = 10 then by obtain ⟨w1, w2⟩ := k0; subst w1; subst w2; exact Eq.trans (b := (F 43 10)) rfl rfl else by unfold uF; simp only [nb2 k0, cond_false]) (funext fun q => if k0 : q = 51 then by subst k0; exact Eq.trans (b := (A 51)) rfl rfl else by unfold uA; simp only [nb1 k0, cond_false]) rfl K)
            · have h7 : ((A 48).getD y4.toInt.toNat 0) = 103 := h
              rw [if_pos h7] at hE
              refine w_n 2 (pc1 := 50) (ls1 := [some (.ref 43), some (.int x1), some (.int x2), some (.int y3), some (.int y4), some (.int ((A 48).getD y4.toInt.toNat 0)), o6]) (st1 := [.int 40, .int y3]) (hp1 := (hz F A L)) rfl ?_
              refine w_lt (p3 := 53) rfl rfl (fun h => ?_) (fun h => ?_)
              · have h19 : y3.toInt < 40 := h
                rw [if_pos h19] at hE
                refine w_n 5 (pc1 := 64) (ls1 := [some (.ref 43), some (.int x1), some (.int x2), some (.int y3), some (.int y4), some (.int ((A 48).getD y4.toInt.toNat 0)), o6]) (st1 := [.int 48, .int ((A 48).getD y4.toInt.toNat 0), .int y3, .ref 51]) (hp1 := (hz F A L)) rfl ?_
                refine w_ne (p3 := 67) rfl rfl (fun _ => ?_) (fun h => absurd h h5)
                refine w_n 5 (pc1 := 87) (ls1 := [some (.ref 43), some (.int x1), some (.int x2), some (.int y3), some (.int y4), some (.int ((A 48).getD y4.toInt.toNat 0)), o6]) (st1 := [.int y4, .ref 49, .ref 50, .int y3, .ref 51]) (hp1 := (hz F A L)) rfl ?_
                refine w_al (k := 49) (l := (A 49)) rfl rfl rfl (fun _ => ?_)
                refine w_n 2 (pc1 := 91) (ls1 := [some (.ref 43), some (.int x1), some (.int x2), some (.int y3), some (.int y4), some (.int ((A 48).getD y4.toInt.toNat 0)), o6]) (st1 := [.int (((A 49).getD y4.toInt.toNat 0) &&& 7), .ref 50, .int y3, .ref 51]) (hp1 := (hz F A L)) rfl ?_
                refine w_al (k := 50) (l := (A 50)) rfl rfl rfl (fun _ => ?_)
                refine w_as (k := 51) (l := (A 51)) (hp1 := (hz F (uA A 51 ((A 51).set y3.toInt.toNat ((A 50).getD (((A 49).getD y4.toInt.toNat 0) &&& 7).toInt.toNat 0))) L)) rfl rfl rfl (hz_s51 _) (fun _ => ?_)
                refine w_n 4 (pc1 := 10) (ls1 := [some (.ref 43), some (.int x1), some (.int x2), some (.int (y3 + 1)), some (.int (y4 + 1)), some (.int ((A 48).getD y4.toInt.toNat 0)), o6]) (st1 := []) (hp1 := (hz F (uA A 51 ((A 51).set y3.toInt.toNat ((A 50).getD (((A 49).getD y4.toInt.toNat 0) &&& 7).toInt.toNat 0))) L)) rfl ?_
                subst T
                exact ih _ (by omega) (cvQ (funext fun q => funext fun z => if k0 : q = 43 ∧ z = 10 then by obtain ⟨w1, w2⟩ := k0; subst w1; subst w2; exact Eq.trans (b := (kl_reckon_10 (A 48) (A 49) (A 50) x2 m (y3 + 1) (y4 + 1) (F 43 10) ((A 51).set y3.toInt.toNat ((A 50).getD (((A 49).getD y4.toInt.toNat 0) &&& 7).toInt.toNat 0))).2.1) rfl rfl else by unfold uF; simp only [nb2 k0, cond_false]) (funext fun q => if k0 : q = 51 then by subst k0; exact Eq.trans (b := (kl_reckon_10 (A 48) (A 49) (A 50) x2 m (y3 + 1) (y4 + 1) (F 43 10) ((A 51).set y3.toInt.toNat ((A 50).getD (((A 49).getD y4.toInt.toNat 0) &&& 7).toInt.toNat 0))).2.2) rfl rfl else by unfold uA; simp only [nb1 k0, cond_false]) rfl K)
              · have h19 : 40 ≤ y3.toInt := h
                rw [if_neg (Int.not_lt.mpr h19)] at hE
                refine w_n 1 (pc1 := 54) (ls1 := [some (.ref 43), some (.int x1), some (.int x2), some (.int y3), some (.int y4), some (.int ((A 48).getD y4.toInt.toNat 0)), o6]) (st1 := [.int 0]) (hp1 := (hz F A L)) rfl ?_
                subst T
                exact w_ri rfl (cvQ (funext fun q => funext fun z => if k0 : q = 43 ∧ z = 10 then by obtain ⟨w1, w2⟩ := k0; subst w1; subst w2; exact Eq.trans (b := (F 43 10)) rfl rfl else by unfold uF; simp only [nb2 k0, cond_false]) (funext fun q => if k0 : q = 51 then by subst k0; exact Eq.trans (b := (A 51)) rfl rfl else by unfold uA; simp only [nb1 k0, cond_false]) rfl K)
noncomputable def kl_reckon (f : Nat) (a48 : List Int32) (a49 : List Int32) (a50 : List Int32) (a51 : List Int32) (x1 : Int32) (x2 : Int32) : Int32 × Int32 × List Int32 := (kl_reckon_10 a48 a49 a50 x2 f 0 x1 0 a51)
theorem t_kl_reckon {f D : Nat} {F : Nat → Nat → Int32} {A : Nat → List Int32} {L : Nat → List Int64} {Q : Option Value → sm_H → Prop} {x1 : Int32} {x2 : Int32} (K : Q (some (.int ((kl_reckon f (A 48) (A 49) (A 50) (A 51) x1 x2).1))) (hz (uF F 43 10 ((kl_reckon f (A 48) (A 49) (A 50) (A 51) x1 x2).2.1)) (uA A 51 ((kl_reckon f (A 48) (A 49) (A 50) (A 51) x1 x2).2.2)) L)) : wl_M f D 53 [.ref 43, .int x1, .int x2] (hz F A L) Q := by
  generalize hT : (kl_reckon f (A 48) (A 49) (A 50) (A 51) x1 x2) = T at K
  have hE : T = (kl_reckon_10 (A 48) (A 49) (A 50) x2 f 0 x1 0 (A 51)) := hT.symm
  clear hT
  refine w_m (E := mm53) rfl ?_
  show wl_E f f (D - 1) mm53.2.2.2.2.2.2.2.2 0 [some (.ref 43), some (.int x1), some (.int x2), none, none, none, none] [] (hz F A L) Q
  refine w_n 4 (pc1 := 4) (ls1 := [some (.ref 43), some (.int x1), some (.int x2), some (.int 0), none, none, none]) (st1 := [.int 0, .ref 43]) (hp1 := (hz F A L)) rfl ?_
  refine w_pf (k := 43) (fs := hz_f43 F) (hp1 := (hz (uF F 43 10 0) A L)) rfl rfl rfl (hz_p43_10 _) ?_
  refine w_n 2 (pc1 := 10) (ls1 := [some (.ref 43), some (.int x1), some (.int x2), some (.int 0), some (.int x1), none, none]) (st1 := []) (hp1 := (hz (uF F 43 10 0) A L)) rfl ?_
  subst T
  exact t_kl_reckon_10 _ _ (Nat.le_refl _) (cvQ (funext fun q => funext fun z => if k0 : q = 43 ∧ z = 10 then by obtain ⟨w1, w2⟩ := k0; subst w1; subst w2; exact Eq.trans (b := (kl_reckon_10 (A 48) (A 49) (A 50) x2 f 0 x1 0 (A 51)).2.1) rfl rfl else by unfold uF; simp only [nb2 k0, cond_false]) (funext fun q => if k0 : q = 51 then by subst k0; exact Eq.trans (b := (kl_reckon_10 (A 48) (A 49) (A 50) x2 f 0 x1 0 (A 51)).2.2) rfl rfl else by unfold uA; simp only [nb1 k0, cond_false]) rfl K)
noncomputable def kjm_min (x0 : Int32) (x1 : Int32) : Int32 := (if x1.toInt < x0.toInt then x1 else x0)
theorem t_kjm_min {f D : Nat} {F : Nat → Nat → Int32} {A : Nat → List Int32} {L : Nat → List Int64} {Q : Option Value → sm_H → Prop} {x0 : Int32} {x1 : Int32} (K : Q (some (.int (kjm_min x0 x1))) (hz F A L)) : wl_M f D 34 [.int x0, .int x1] (hz F A L) Q := by
  generalize hT : (kjm_min x0 x1) = T at K
  have hE : T = (if x1.toInt < x0.toInt then x1 else x0) := hT.symm
  clear hT
  refine w_m (E := mm34) rfl ?_
  show wl_E f f (D - 1) mm34.2.2.2.2.2.2.2.2 0 [some (.int x0), some (.int x1)] [] (hz F A L) Q
  refine w_n 2 (pc1 := 2) (ls1 := [some (.int x0), some (.int x1)]) (st1 := [.int x1, .int x0]) (hp1 := (hz F A L)) rfl ?_
  refine w_gt (p3 := 5) rfl rfl (fun h => ?_) (fun h => ?_)
  · have h1 : x1.toInt < x0.toInt := h
    rw [if_pos h1] at hE
    refine w_n 1 (pc1 := 10) (ls1 := [some (.int x0), some (.int x1)]) (st1 := [.int x1]) (hp1 := (hz F A L)) rfl ?_
    subst T
    exact w_ri rfl (cvQ rfl rfl rfl K)
  · have h1 : x0.toInt ≤ x1.toInt := h
    rw [if_neg (Int.not_lt.mpr h1)] at hE
    refine w_n 2 (pc1 := 10) (ls1 := [some (.int x0), some (.int x1)]) (st1 := [.int x0]) (hp1 := (hz F A L)) rfl ?_
    subst T
    exact w_ri rfl (cvQ rfl rfl rfl K)
noncomputable def kl_amount_2 (f : Nat) (a44 : List Int32) (a45 : List Int32) (a46 : List Int32) (a47 : List Int32) (a48 : List Int32) (a49 : List Int32) (a50 : List Int32) (x1 : Int32) (x2 : Int32) : Nat → Int32 → Int32 → List Int32 → Int32 × Int32 × List Int32
  | 0, _, f43_10, a51 => (0, f43_10, a51)
  | m + 1, y3, f43_10, a51 => (if (a44.getD y3.toInt.toNat 0) = x1 then (if (kl_reckon f a48 a49 a50 a51 (a46.getD y3.toInt.toNat 0) (a47.getD y3.toInt.toNat 0)).1 = 0 then (kl_amount_2 f a44 a45 a46 a47 a48 a49 a50 x1 x2 m (y3 + 1) (kl_reckon f a48 a49 a50 a51 (a46.getD y3.toInt.toNat 0) (a47.getD y3.toInt.toNat 0)).2.1 (kl_reckon f a48 a49 a50 a51 (a46.getD y3.toInt.toNat 0) (a47.getD y3.toInt.toNat 0)).2.2) else ((kjm_max 0 (kjm_min x2 (kl_reckon f a48 a49 a50 (kl_reckon f a48 a49 a50 a51 (a46.getD y3.toInt.toNat 0) (a47.getD y3.toInt.toNat 0)).2.2 (a45.getD y3.toInt.toNat 0) (a46.getD y3.toInt.toNat 0)).1)), (kl_reckon f a48 a49 a50 (kl_reckon f a48 a49 a50 a51 (a46.getD y3.toInt.toNat 0) (a47.getD y3.toInt.toNat 0)).2.2 (a45.getD y3.toInt.toNat 0) (a46.getD y3.toInt.toNat 0)).2.1, (kl_reckon f a48 a49 a50 (kl_reckon f a48 a49 a50 a51 (a46.getD y3.toInt.toNat 0) (a47.getD y3.toInt.toNat 0)).2.2 (a45.getD y3.toInt.toNat 0) (a46.getD y3.toInt.toNat 0)).2.2)) else (kl_amount_2 f a44 a45 a46 a47 a48 a49 a50 x1 x2 m (y3 + 1) f43_10 a51))
theorem t_kl_amount_2 {f : Nat} {Q : Option Value → sm_H → Prop} : ∀ (m : Nat) {B D : Nat} {F : Nat → Nat → Int32} {A : Nat → List Int32} {L : Nat → List Int64} {x1 : Int32} {x2 : Int32} {y3 : Int32}, m = ((F 43 0).toInt - y3.toInt).toNat → (Q (some (.int ((kl_amount_2 f (A 44) (A 45) (A 46) (A 47) (A 48) (A 49) (A 50) x1 x2 m y3 (F 43 10) (A 51)).1))) (hz (uF F 43 10 ((kl_amount_2 f (A 44) (A 45) (A 46) (A 47) (A 48) (A 49) (A 50) x1 x2 m y3 (F 43 10) (A 51)).2.1)) (uA A 51 ((kl_amount_2 f (A 44) (A 45) (A 46) (A 47) (A 48) (A 49) (A 50) x1 x2 m y3 (F 43 10) (A 51)).2.2)) L)) → wl_E f B D mm52.2.2.2.2.2.2.2.2 2 [some (.ref 43), some (.int x1), some (.int x2), some (.int y3)] [] (hz F A L) Q := by
  intro m
  induction m with
  | zero =>
    intro B D F A L x1 x2 y3 hm K
    generalize hT : (kl_amount_2 f (A 44) (A 45) (A 46) (A 47) (A 48) (A 49) (A 50) x1 x2 0 y3 (F 43 10) (A 51)) = T at K
    have hE : T = (0, (F 43 10), (A 51)) := hT.symm
    clear hT
    refine w_n 3 (pc1 := 7) (ls1 := [some (.ref 43), some (.int x1), some (.int x2), some (.int y3)]) (st1 := [.int (F 43 0), .int y3]) (hp1 := (hz F A L)) rfl ?_
    refine w_ge (p3 := 10) rfl rfl (fun hb => ?_) (fun h => False.elim (by have h : y3.toInt < (F 43 0).toInt := h; omega))
    refine w_n 1 (pc1 := 71) (ls1 := [some (.ref 43), some (.int x1), some (.int x2), some (.int y3)]) (st1 := [.int 0]) (hp1 := (hz F A L)) rfl ?_
    subst T
    exact w_ri rfl (cvQ (funext fun q => funext fun z => if k0 : q = 43 ∧ z = 10 then by obtain ⟨w1, w2⟩ := k0; subst w1; subst w2; exact Eq.trans (b := (F 43 10)) rfl rfl else by unfold uF; simp only [nb2 k0, cond_false]) (funext fun q => if k0 : q = 51 then by subst k0; exact Eq.trans (b := (A 51)) rfl rfl else by unfold uA; simp only [nb1 k0, cond_false]) rfl K)
  | succ m ih =>
    intro B D F A L x1 x2 y3 hm K
    generalize hT : (kl_amount_2 f (A 44) (A 45) (A 46) (A 47) (A 48) (A 49) (A 50) x1 x2 (m + 1) y3 (F 43 10) (A 51)) = T at K
    have hE : T = (if ((A 44).getD y3.toInt.toNat 0) = x1 then (if (kl_reckon f (A 48) (A 49) (A 50) (A 51) ((A 46).getD y3.toInt.toNat 0) ((A 47).getD y3.toInt.toNat 0)).1 = 0 then (kl_amount_2 f (A 44) (A 45) (A 46) (A 47) (A 48) (A 49) (A 50) x1 x2 m (y3 + 1) (kl_reckon f (A 48) (A 49) (A 50) (A 51) ((A 46).getD y3.toInt.toNat 0) ((A 47).getD y3.toInt.toNat 0)).2.1 (kl_reckon f (A 48) (A 49) (A 50) (A 51) ((A 46).getD y3.toInt.toNat 0) ((A 47).getD y3.toInt.toNat 0)).2.2) else ((kjm_max 0 (kjm_min x2 (kl_reckon f (A 48) (A 49) (A 50) (kl_reckon f (A 48) (A 49) (A 50) (A 51) ((A 46).getD y3.toInt.toNat 0) ((A 47).getD y3.toInt.toNat 0)).2.2 ((A 45).getD y3.toInt.toNat 0) ((A 46).getD y3.toInt.toNat 0)).1)), (kl_reckon f (A 48) (A 49) (A 50) (kl_reckon f (A 48) (A 49) (A 50) (A 51) ((A 46).getD y3.toInt.toNat 0) ((A 47).getD y3.toInt.toNat 0)).2.2 ((A 45).getD y3.toInt.toNat 0) ((A 46).getD y3.toInt.toNat 0)).2.1, (kl_reckon f (A 48) (A 49) (A 50) (kl_reckon f (A 48) (A 49) (A 50) (A 51) ((A 46).getD y3.toInt.toNat 0) ((A 47).getD y3.toInt.toNat 0)).2.2 ((A 45).getD y3.toInt.toNat 0) ((A 46).getD y3.toInt.toNat 0)).2.2)) else (kl_amount_2 f (A 44) (A 45) (A 46) (A 47) (A 48) (A 49) (A 50) x1 x2 m (y3 + 1) (F 43 10) (A 51))) := hT.symm
    clear hT
    refine w_n 3 (pc1 := 7) (ls1 := [some (.ref 43), some (.int x1), some (.int x2), some (.int y3)]) (st1 := [.int (F 43 0), .int y3]) (hp1 := (hz F A L)) rfl ?_
    refine w_ge (p3 := 10) rfl rfl (fun h => False.elim (by have h : (F 43 0).toInt ≤ y3.toInt := h; omega)) (fun hb => ?_)
    refine w_n 3 (pc1 := 15) (ls1 := [some (.ref 43), some (.int x1), some (.int x2), some (.int y3)]) (st1 := [.int y3, .ref 44]) (hp1 := (hz F A L)) rfl ?_
    refine w_al (k := 44) (l := (A 44)) rfl rfl rfl (fun ab => ?_)
    refine w_n 1 (pc1 := 17) (ls1 := [some (.ref 43), some (.int x1), some (.int x2), some (.int y3)]) (st1 := [.int x1, .int ((A 44).getD y3.toInt.toNat 0)]) (hp1 := (hz F A L)) rfl ?_
    refine w_ne (p3 := 20) rfl rfl (fun h => ?_) (fun h => ?_)
    · have h1 : ¬ ((A 44).getD y3.toInt.toNat 0) = x1 := h
      rw [if_neg h1] at hE
      refine w_n 2 (pc1 := 2) (ls1 := [some (.ref 43), some (.int x1), some (.int x2), some (.int (y3 + 1))]) (st1 := []) (hp1 := (hz F A L)) rfl ?_
      subst T
      have hb2 := i_up (B := (F 43 0)) hb
      have hb3 : y3.toInt < (F 43 0).toInt := hb
      exact ih (show m = ((F 43 0).toInt - (y3 + 1).toInt).toNat by rw [hb2]; omega) (cvQ (funext fun q => funext fun z => if k0 : q = 43 ∧ z = 10 then by obtain ⟨w1, w2⟩ := k0; subst w1; subst w2; exact Eq.trans (b := (kl_amount_2 f (A 44) (A 45) (A 46) (A 47) (A 48) (A 49) (A 50) x1 x2 m (y3 + 1) (F 43 10) (A 51)).2.1) rfl rfl else by unfold uF; simp only [nb2 k0, cond_false]) (funext fun q => if k0 : q = 51 then by subst k0; exact Eq.trans (b := (kl_amount_2 f (A 44) (A 45) (A 46) (A 47) (A 48) (A 49) (A 50) x1 x2 m (y3 + 1) (F 43 10) (A 51)).2.2) rfl rfl else by unfold uA; simp only [nb1 k0, cond_false]) rfl K)
    · have h1 : ((A 44).getD y3.toInt.toNat 0) = x1 := h
      rw [if_pos h1] at hE
      refine w_n 4 (pc1 := 26) (ls1 := [some (.ref 43), some (.int x1), some (.int x2), some (.int y3)]) (st1 := [.int y3, .ref 46, .ref 43]) (hp1 := (hz F A L)) rfl ?_
      refine w_al (k := 46) (l := (A 46)) rfl rfl rfl (fun ab => ?_)
      refine w_n 3 (pc1 := 32) (ls1 := [some (.ref 43), some (.int x1), some (.int x2), some (.int y3)]) (st1 := [.int y3, .ref 47, .int ((A 46).getD y3.toInt.toNat 0), .ref 43]) (hp1 := (hz F A L)) rfl ?_
      refine w_al (k := 47) (l := (A 47)) rfl rfl rfl (fun ab => ?_)
      refine w_c rfl rfl (t_kl_reckon ?_)
      show wl_E f _ _ mm52.2.2.2.2.2.2.2.2 36 [some (.ref 43), some (.int x1), some (.int x2), some (.int y3)] [.int (kl_reckon f (A 48) (A 49) (A 50) (A 51) ((A 46).getD y3.toInt.toNat 0) ((A 47).getD y3.toInt.toNat 0)).1] (hz (uF F 43 10 (kl_reckon f (A 48) (A 49) (A 50) (A 51) ((A 46).getD y3.toInt.toNat 0) ((A 47).getD y3.toInt.toNat 0)).2.1) (uA A 51 (kl_reckon f (A 48) (A 49) (A 50) (A 51) ((A 46).getD y3.toInt.toNat 0) ((A 47).getD y3.toInt.toNat 0)).2.2) L) _
      generalize hG41 : (kl_reckon f (A 48) (A 49) (A 50) (A 51) ((A 46).getD y3.toInt.toNat 0) ((A 47).getD y3.toInt.toNat 0)) = G41 at hE ⊢
      refine w_zeq (p3 := 39) rfl rfl (fun h => ?_) (fun h => ?_)
      · have h2 : G41.1 = 0 := h
        rw [if_pos h2] at hE
        refine w_n 2 (pc1 := 2) (ls1 := [some (.ref 43), some (.int x1), some (.int x2), some (.int (y3 + 1))]) (st1 := []) (hp1 := (hz (uF F 43 10 G41.2.1) (uA A 51 G41.2.2) L)) rfl ?_
        subst T
        have hb2 := i_up (B := (F 43 0)) hb
        have hb3 : y3.toInt < (F 43 0).toInt := hb
        exact ih (show m = ((F 43 0).toInt - (y3 + 1).toInt).toNat by rw [hb2]; omega) (cvQ (funext fun q => funext fun z => if k0 : q = 43 ∧ z = 10 then by obtain ⟨w1, w2⟩ := k0; subst w1; subst w2; exact Eq.trans (b := (kl_amount_2 f (A 44) (A 45) (A 46) (A 47) (A 48) (A 49) (A 50) x1 x2 m (y3 + 1) G41.2.1 G41.2.2).2.1) rfl rfl else by unfold uF; simp only [nb2 k0, cond_false]) (funext fun q => if k0 : q = 51 then by subst k0; exact Eq.trans (b := (kl_amount_2 f (A 44) (A 45) (A 46) (A 47) (A 48) (A 49) (A 50) x1 x2 m (y3 + 1) G41.2.1 G41.2.2).2.2) rfl rfl else by unfold uA; simp only [nb1 k0, cond_false]) rfl K)
      · have h2 : ¬ G41.1 = 0 := h
        rw [if_neg h2] at hE
        refine w_n 6 (pc1 := 47) (ls1 := [some (.ref 43), some (.int x1), some (.int x2), some (.int y3)]) (st1 := [.int y3, .ref 45, .ref 43, .int x2, .int 0]) (hp1 := (hz (uF F 43 10 G41.2.1) (uA A 51 G41.2.2) L)) rfl ?_
        refine w_al (k := 45) (l := (A 45)) rfl rfl rfl (fun ab => ?_)
        refine w_n 3 (pc1 := 53) (ls1 := [some (.ref 43), some (.int x1), some (.int x2), some (.int y3)]) (st1 := [.int y3, .ref 46, .int ((A 45).getD y3.toInt.toNat 0), .ref 43, .int x2, .int 0]) (hp1 := (hz (uF F 43 10 G41.2.1) (uA A 51 G41.2.2) L)) rfl ?_
        refine w_al (k := 46) (l := (A 46)) rfl rfl rfl (fun ab => ?_)
        refine w_c rfl rfl (t_kl_reckon ?_)
        show wl_E f _ _ mm52.2.2.2.2.2.2.2.2 57 [some (.ref 43), some (.int x1), some (.int x2), some (.int y3)] [.int (kl_reckon f (A 48) (A 49) (A 50) G41.2.2 ((A 45).getD y3.toInt.toNat 0) ((A 46).getD y3.toInt.toNat 0)).1, .int x2, .int 0] (hz (uF (uF F 43 10 G41.2.1) 43 10 (kl_reckon f (A 48) (A 49) (A 50) G41.2.2 ((A 45).getD y3.toInt.toNat 0) ((A 46).getD y3.toInt.toNat 0)).2.1) (uA (uA A 51 G41.2.2) 51 (kl_reckon f (A 48) (A 49) (A 50) G41.2.2 ((A 45).getD y3.toInt.toNat 0) ((A 46).getD y3.toInt.toNat 0)).2.2) L) _
        generalize hG42 : (kl_reckon f (A 48) (A 49) (A 50) G41.2.2 ((A 45).getD y3.toInt.toNat 0) ((A 46).getD y3.toInt.toNat 0)) = G42 at hE ⊢
        refine w_c rfl rfl (t_kjm_min ?_)
        show wl_E f _ _ mm52.2.2.2.2.2.2.2.2 60 [some (.ref 43), some (.int x1), some (.int x2), some (.int y3)] [.int (kjm_min x2 G42.1), .int 0] (hz (uF (uF F 43 10 G41.2.1) 43 10 G42.2.1) (uA (uA A 51 G41.2.2) 51 G42.2.2) L) _
        generalize hG43 : (kjm_min x2 G42.1) = G43 at hE ⊢
        refine w_c rfl rfl (t_kjm_max ?_)
        show wl_E f _ _ mm52.2.2.2.2.2.2.2.2 63 [some (.ref 43), some (.int x1), some (.int x2), some (.int y3)] [.int (kjm_max 0 G43)] (hz (uF (uF F 43 10 G41.2.1) 43 10 G42.2.1) (uA (uA A 51 G41.2.2) 51 G42.2.2) L) _
        generalize hG44 : (kjm_max 0 G43) = G44 at hE ⊢
        subst T
        exact w_ri rfl (cvQ (funext fun q => funext fun z => if k0 : q = 43 ∧ z = 10 then by obtain ⟨w1, w2⟩ := k0; subst w1; subst w2; exact Eq.trans (b := G42.2.1) rfl rfl else by unfold uF; simp only [nb2 k0, cond_false]) (funext fun q => if k0 : q = 51 then by subst k0; exact Eq.trans (b := G42.2.2) rfl rfl else by unfold uA; simp only [nb1 k0, cond_false]) rfl K)
noncomputable def kl_amount (f : Nat) (f43_0 : Int32) (f43_10 : Int32) (a44 : List Int32) (a45 : List Int32) (a46 : List Int32) (a47 : List Int32) (a48 : List Int32) (a49 : List Int32) (a50 : List Int32) (a51 : List Int32) (x1 : Int32) (x2 : Int32) : Int32 × Int32 × List Int32 := (kl_amount_2 f a44 a45 a46 a47 a48 a49 a50 x1 x2 f43_0.toInt.toNat 0 f43_10 a51)
theorem t_kl_amount {f D : Nat} {F : Nat → Nat → Int32} {A : Nat → List Int32} {L : Nat → List Int64} {Q : Option Value → sm_H → Prop} {x1 : Int32} {x2 : Int32} (K : Q (some (.int ((kl_amount f (F 43 0) (F 43 10) (A 44) (A 45) (A 46) (A 47) (A 48) (A 49) (A 50) (A 51) x1 x2).1))) (hz (uF F 43 10 ((kl_amount f (F 43 0) (F 43 10) (A 44) (A 45) (A 46) (A 47) (A 48) (A 49) (A 50) (A 51) x1 x2).2.1)) (uA A 51 ((kl_amount f (F 43 0) (F 43 10) (A 44) (A 45) (A 46) (A 47) (A 48) (A 49) (A 50) (A 51) x1 x2).2.2)) L)) : wl_M f D 52 [.ref 43, .int x1, .int x2] (hz F A L) Q := by
  generalize hT : (kl_amount f (F 43 0) (F 43 10) (A 44) (A 45) (A 46) (A 47) (A 48) (A 49) (A 50) (A 51) x1 x2) = T at K
  have hE : T = (kl_amount_2 f (A 44) (A 45) (A 46) (A 47) (A 48) (A 49) (A 50) x1 x2 (F 43 0).toInt.toNat 0 (F 43 10) (A 51)) := hT.symm
  clear hT
  refine w_m (E := mm52) rfl ?_
  show wl_E f f (D - 1) mm52.2.2.2.2.2.2.2.2 0 [some (.ref 43), some (.int x1), some (.int x2), none] [] (hz F A L) Q
  refine w_n 2 (pc1 := 2) (ls1 := [some (.ref 43), some (.int x1), some (.int x2), some (.int 0)]) (st1 := []) (hp1 := (hz F A L)) rfl ?_
  subst T
  exact t_kl_amount_2 _ (show (F 43 0).toInt.toNat = ((F 43 0).toInt - (0 : Int32).toInt).toNat by have e0 : (0 : Int32).toInt = 0 := rfl; first | rfl | omega) (cvQ (funext fun q => funext fun z => if k0 : q = 43 ∧ z = 10 then by obtain ⟨w1, w2⟩ := k0; subst w1; subst w2; exact Eq.trans (b := (kl_amount_2 f (A 44) (A 45) (A 46) (A 47) (A 48) (A 49) (A 50) x1 x2 (F 43 0).toInt.toNat 0 (F 43 10) (A 51)).2.1) rfl rfl else by unfold uF; simp only [nb2 k0, cond_false]) (funext fun q => if k0 : q = 51 then by subst k0; exact Eq.trans (b := (kl_amount_2 f (A 44) (A 45) (A 46) (A 47) (A 48) (A 49) (A 50) x1 x2 (F 43 0).toInt.toNat 0 (F 43 10) (A 51)).2.2) rfl rfl else by unfold uA; simp only [nb1 k0, cond_false]) rfl K)
noncomputable def ks_cooling_63_3 (f : Nat) (f3_2 : Int32) (f3_4 : Int32) (f43_0 : Int32) (f43_10 : Int32) (a6 : List Int32) (a8 : List Int32) (a10 : List Int32) (a44 : List Int32) (a45 : List Int32) (a46 : List Int32) (a47 : List Int32) (a48 : List Int32) (a49 : List Int32) (a50 : List Int32) (a51 : List Int32) : Int32 × Int32 × List Int32 × List Int32 := ((kl_amount f f43_0 f43_10 a44 a45 a46 a47 a48 a49 (kl_tellMother_43_3 f3_2 f3_4 a6 a8 a10 a50) a51 107 20).1, (kl_amount f f43_0 f43_10 a44 a45 a46 a47 a48 a49 (kl_tellMother_43_3 f3_2 f3_4 a6 a8 a10 a50) a51 107 20).2.1, (kl_tellMother_43_3 f3_2 f3_4 a6 a8 a10 a50), (kl_amount f f43_0 f43_10 a44 a45 a46 a47 a48 a49 (kl_tellMother_43_3 f3_2 f3_4 a6 a8 a10 a50) a51 107 20).2.2)
theorem t_ks_cooling_63_3 {f D : Nat} {F : Nat → Nat → Int32} {A : Nat → List Int32} {L : Nat → List Int64} {Q : Option Value → sm_H → Prop} (K : Q (some (.int ((ks_cooling_63_3 f (F 3 2) (F 3 4) (F 43 0) (F 43 10) (A 6) (A 8) (A 10) (A 44) (A 45) (A 46) (A 47) (A 48) (A 49) (A 50) (A 51)).1))) (hz (uF F 43 10 ((ks_cooling_63_3 f (F 3 2) (F 3 4) (F 43 0) (F 43 10) (A 6) (A 8) (A 10) (A 44) (A 45) (A 46) (A 47) (A 48) (A 49) (A 50) (A 51)).2.1)) (uA (uA A 50 ((ks_cooling_63_3 f (F 3 2) (F 3 4) (F 43 0) (F 43 10) (A 6) (A 8) (A 10) (A 44) (A 45) (A 46) (A 47) (A 48) (A 49) (A 50) (A 51)).2.2.1)) 51 ((ks_cooling_63_3 f (F 3 2) (F 3 4) (F 43 0) (F 43 10) (A 6) (A 8) (A 10) (A 44) (A 45) (A 46) (A 47) (A 48) (A 49) (A 50) (A 51)).2.2.2)) L)) : wl_M f D 49 [.ref 63, .ref 3] (hz F A L) Q := by
  generalize hT : (ks_cooling_63_3 f (F 3 2) (F 3 4) (F 43 0) (F 43 10) (A 6) (A 8) (A 10) (A 44) (A 45) (A 46) (A 47) (A 48) (A 49) (A 50) (A 51)) = T at K
  have hE : T = ((kl_amount f (F 43 0) (F 43 10) (A 44) (A 45) (A 46) (A 47) (A 48) (A 49) (kl_tellMother_43_3 (F 3 2) (F 3 4) (A 6) (A 8) (A 10) (A 50)) (A 51) 107 20).1, (kl_amount f (F 43 0) (F 43 10) (A 44) (A 45) (A 46) (A 47) (A 48) (A 49) (kl_tellMother_43_3 (F 3 2) (F 3 4) (A 6) (A 8) (A 10) (A 50)) (A 51) 107 20).2.1, (kl_tellMother_43_3 (F 3 2) (F 3 4) (A 6) (A 8) (A 10) (A 50)), (kl_amount f (F 43 0) (F 43 10) (A 44) (A 45) (A 46) (A 47) (A 48) (A 49) (kl_tellMother_43_3 (F 3 2) (F 3 4) (A 6) (A 8) (A 10) (A 50)) (A 51) 107 20).2.2) := hT.symm
  clear hT
  refine w_m (E := mm49) rfl ?_
  show wl_E f f (D - 1) mm49.2.2.2.2.2.2.2.2 0 [some (.ref 63), some (.ref 3)] [] (hz F A L) Q
  refine w_n 3 (pc1 := 5) (ls1 := [some (.ref 63), some (.ref 3)]) (st1 := [.ref 3, .ref 43]) (hp1 := (hz F A L)) rfl ?_
  refine w_c rfl rfl (t_kl_tellMother_43_3 ?_)
  show wl_E f _ _ mm49.2.2.2.2.2.2.2.2 8 [some (.ref 63), some (.ref 3)] [] (hz F (uA A 50 (kl_tellMother_43_3 (F 3 2) (F 3 4) (A 6) (A 8) (A 10) (A 50))) L) _
  generalize hG36 : (kl_tellMother_43_3 (F 3 2) (F 3 4) (A 6) (A 8) (A 10) (A 50)) = G36 at hE ⊢
  refine w_n 4 (pc1 := 16) (ls1 := [some (.ref 63), some (.ref 3)]) (st1 := [.int 20, .int 107, .ref 43]) (hp1 := (hz F (uA A 50 G36) L)) rfl ?_
  refine w_c rfl rfl (t_kl_amount ?_)
  show wl_E f _ _ mm49.2.2.2.2.2.2.2.2 19 [some (.ref 63), some (.ref 3)] [.int (kl_amount f (F 43 0) (F 43 10) (A 44) (A 45) (A 46) (A 47) (A 48) (A 49) G36 (A 51) 107 20).1] (hz (uF F 43 10 (kl_amount f (F 43 0) (F 43 10) (A 44) (A 45) (A 46) (A 47) (A 48) (A 49) G36 (A 51) 107 20).2.1) (uA (uA A 50 G36) 51 (kl_amount f (F 43 0) (F 43 10) (A 44) (A 45) (A 46) (A 47) (A 48) (A 49) G36 (A 51) 107 20).2.2) L) _
  generalize hG45 : (kl_amount f (F 43 0) (F 43 10) (A 44) (A 45) (A 46) (A 47) (A 48) (A 49) G36 (A 51) 107 20) = G45 at hE ⊢
  subst T
  exact w_ri rfl (cvQ rfl rfl rfl K)
noncomputable def ks_heatOf (f63_2 : Int32) (f63_3 : Int32) (x1 : Int32) (x2 : Int32) : Int32 := (if x1.toInt < f63_3.toInt then (kjm_max 0 (f63_2 - (x2 * x1))) else (-1))
theorem t_ks_heatOf {f D : Nat} {F : Nat → Nat → Int32} {A : Nat → List Int32} {L : Nat → List Int64} {Q : Option Value → sm_H → Prop} {x1 : Int32} {x2 : Int32} (K : Q (some (.int (ks_heatOf (F 63 2) (F 63 3) x1 x2))) (hz F A L)) : wl_M f D 56 [.ref 63, .int x1, .int x2] (hz F A L) Q := by
  generalize hT : (ks_heatOf (F 63 2) (F 63 3) x1 x2) = T at K
  have hE : T = (if x1.toInt < (F 63 3).toInt then (kjm_max 0 ((F 63 2) - (x2 * x1))) else (-1)) := hT.symm
  clear hT
  refine w_m (E := mm56) rfl ?_
  show wl_E f f (D - 1) mm56.2.2.2.2.2.2.2.2 0 [some (.ref 63), some (.int x1), some (.int x2)] [] (hz F A L) Q
  refine w_n 3 (pc1 := 5) (ls1 := [some (.ref 63), some (.int x1), some (.int x2)]) (st1 := [.int (F 63 3), .int x1]) (hp1 := (hz F A L)) rfl ?_
  refine w_lt (p3 := 8) rfl rfl (fun h => ?_) (fun h => ?_)
  · have h1 : x1.toInt < (F 63 3).toInt := h
    rw [if_pos h1] at hE
    refine w_n 7 (pc1 := 21) (ls1 := [some (.ref 63), some (.int x1), some (.int x2)]) (st1 := [.int ((F 63 2) - (x2 * x1)), .int 0]) (hp1 := (hz F A L)) rfl ?_
    refine w_c rfl rfl (t_kjm_max ?_)
    show wl_E f _ _ mm56.2.2.2.2.2.2.2.2 24 [some (.ref 63), some (.int x1), some (.int x2)] [.int (kjm_max 0 ((F 63 2) - (x2 * x1)))] (hz F A L) _
    generalize hG48 : (kjm_max 0 ((F 63 2) - (x2 * x1))) = G48 at hE ⊢
    subst T
    exact w_ri rfl (cvQ rfl rfl rfl K)
  · have h1 : (F 63 3).toInt ≤ x1.toInt := h
    rw [if_neg (Int.not_lt.mpr h1)] at hE
    refine w_n 2 (pc1 := 24) (ls1 := [some (.ref 63), some (.int x1), some (.int x2)]) (st1 := [.int (-1)]) (hp1 := (hz F A L)) rfl ?_
    subst T
    exact w_ri rfl (cvQ rfl rfl rfl K)
noncomputable def ks_pourCups_63_3_8 (f3_2 : Int32) (f63_2 : Int32) (f63_3 : Int32) (a4 : List Int32) (a5 : List Int32) (a7 : List Int32) (x2 : Int32) : Nat → Int32 → Int32 → Int32 → List Int32 → List Int32 → Int32 × List Int32 × List Int32
  | 0, y3, _, _, a8, a9 => (y3, a8, a9)
  | m + 1, y3, y4, y5, a8, a9 => (if (a4.getD (((a5.getD f3_2.toInt.toNat 0) + y5) - ((a5.getD f3_2.toInt.toNat 0) + y5) / 12 * 12).toInt.toNat 0) = (-1) then (ks_pourCups_63_3_8 f3_2 f63_2 f63_3 a4 a5 a7 x2 m y3 y4 (y5 + 1) a8 a9) else (if (ks_heatOf f63_2 f63_3 y4 x2) = (-1) then (y3, a8, a9) else (if (a7.getD (a4.getD (((a5.getD f3_2.toInt.toNat 0) + y5) - ((a5.getD f3_2.toInt.toNat 0) + y5) / 12 * 12).toInt.toNat 0).toInt.toNat 0).toInt < (ks_heatOf f63_2 f63_3 y4 x2).toInt then (ks_pourCups_63_3_8 f3_2 f63_2 f63_3 a4 a5 a7 x2 m y3 (y4 + 1) (y5 + 1) (a8.set (a4.getD (((a5.getD f3_2.toInt.toNat 0) + y5) - ((a5.getD f3_2.toInt.toNat 0) + y5) / 12 * 12).toInt.toNat 0).toInt.toNat (kjm_max 0 ((a8.getD (a4.getD (((a5.getD f3_2.toInt.toNat 0) + y5) - ((a5.getD f3_2.toInt.toNat 0) + y5) / 12 * 12).toInt.toNat 0).toInt.toNat 0) - 1))) (a9.set (a4.getD (((a5.getD f3_2.toInt.toNat 0) + y5) - ((a5.getD f3_2.toInt.toNat 0) + y5) / 12 * 12).toInt.toNat 0).toInt.toNat ((a9.getD (a4.getD (((a5.getD f3_2.toInt.toNat 0) + y5) - ((a5.getD f3_2.toInt.toNat 0) + y5) / 12 * 12).toInt.toNat 0).toInt.toNat 0) + 1))) else (ks_pourCups_63_3_8 f3_2 f63_2 f63_3 a4 a5 a7 x2 m (y3 ||| ((1 : Int32) <<< ((a4.getD (((a5.getD f3_2.toInt.toNat 0) + y5) - ((a5.getD f3_2.toInt.toNat 0) + y5) / 12 * 12).toInt.toNat 0) &&& 31))) (y4 + 1) (y5 + 1) a8 a9))))
theorem t_ks_pourCups_63_3_8 {f : Nat} {Q : Option Value → sm_H → Prop} : ∀ (m : Nat) {B D : Nat} {F : Nat → Nat → Int32} {A : Nat → List Int32} {L : Nat → List Int64} {x2 : Int32} {y3 : Int32} {y4 : Int32} {y5 : Int32} {o6 : Option Value} {o7 : Option Value}, m = (12 + 1 - y5.toInt).toNat → (Q (some (.int ((ks_pourCups_63_3_8 (F 3 2) (F 63 2) (F 63 3) (A 4) (A 5) (A 7) x2 m y3 y4 y5 (A 8) (A 9)).1))) (hz F (uA (uA A 8 ((ks_pourCups_63_3_8 (F 3 2) (F 63 2) (F 63 3) (A 4) (A 5) (A 7) x2 m y3 y4 y5 (A 8) (A 9)).2.1)) 9 ((ks_pourCups_63_3_8 (F 3 2) (F 63 2) (F 63 3) (A 4) (A 5) (A 7) x2 m y3 y4 y5 (A 8) (A 9)).2.2)) L)) → wl_E f B D mm55.2.2.2.2.2.2.2.2 8 [some (.ref 63), some (.ref 3), some (.int x2), some (.int y3), some (.int y4), some (.int y5), o6, o7] [] (hz F A L) Q := by
  intro m
  induction m with
  | zero =>
    intro B D F A L x2 y3 y4 y5 o6 o7 hm K
    generalize hT : (ks_pourCups_63_3_8 (F 3 2) (F 63 2) (F 63 3) (A 4) (A 5) (A 7) x2 0 y3 y4 y5 (A 8) (A 9)) = T at K
    have hE : T = (y3, (A 8), (A 9)) := hT.symm
    clear hT
    refine w_n 2 (pc1 := 12) (ls1 := [some (.ref 63), some (.ref 3), some (.int x2), some (.int y3), some (.int y4), some (.int y5), o6, o7]) (st1 := [.int 12, .int y5]) (hp1 := (hz F A L)) rfl ?_
    refine w_gt (p3 := 15) rfl rfl (fun hb => ?_) (fun h => False.elim (by have h : y5.toInt ≤ 12 := h; omega))
    refine w_n 1 (pc1 := 126) (ls1 := [some (.ref 63), some (.ref 3), some (.int x2), some (.int y3), some (.int y4), some (.int y5), o6, o7]) (st1 := [.int y3]) (hp1 := (hz F A L)) rfl ?_
    subst T
    exact w_ri rfl (cvQ rfl (funext fun q => if k0 : q = 8 then by subst k0; exact Eq.trans (b := (A 8)) rfl rfl else if k1 : q = 9 then by subst k1; exact Eq.trans (b := (A 9)) rfl rfl else by unfold uA; simp only [nb1 k0, nb1 k1, cond_false]) rfl K)
  | succ m ih =>
    intro B D F A L x2 y3 y4 y5 o6 o7 hm K
    generalize hT : (ks_pourCups_63_3_8 (F 3 2) (F 63 2) (F 63 3) (A 4) (A 5) (A 7) x2 (m + 1) y3 y4 y5 (A 8) (A 9)) = T at K
    have hE : T = (if ((A 4).getD ((((A 5).getD (F 3 2).toInt.toNat 0) + y5) - (((A 5).getD (F 3 2).toInt.toNat 0) + y5) / 12 * 12).toInt.toNat 0) = (-1) then (ks_pourCups_63_3_8 (F 3 2) (F 63 2) (F 63 3) (A 4) (A 5) (A 7) x2 m y3 y4 (y5 + 1) (A 8) (A 9)) else (if (ks_heatOf (F 63 2) (F 63 3) y4 x2) = (-1) then (y3, (A 8), (A 9)) else (if ((A 7).getD ((A 4).getD ((((A 5).getD (F 3 2).toInt.toNat 0) + y5) - (((A 5).getD (F 3 2).toInt.toNat 0) + y5) / 12 * 12).toInt.toNat 0).toInt.toNat 0).toInt < (ks_heatOf (F 63 2) (F 63 3) y4 x2).toInt then (ks_pourCups_63_3_8 (F 3 2) (F 63 2) (F 63 3) (A 4) (A 5) (A 7) x2 m y3 (y4 + 1) (y5 + 1) ((A 8).set ((A 4).getD ((((A 5).getD (F 3 2).toInt.toNat 0) + y5) - (((A 5).getD (F 3 2).toInt.toNat 0) + y5) / 12 * 12).toInt.toNat 0).toInt.toNat (kjm_max 0 (((A 8).getD ((A 4).getD ((((A 5).getD (F 3 2).toInt.toNat 0) + y5) - (((A 5).getD (F 3 2).toInt.toNat 0) + y5) / 12 * 12).toInt.toNat 0).toInt.toNat 0) - 1))) ((A 9).set ((A 4).getD ((((A 5).getD (F 3 2).toInt.toNat 0) + y5) - (((A 5).getD (F 3 2).toInt.toNat 0) + y5) / 12 * 12).toInt.toNat 0).toInt.toNat (((A 9).getD ((A 4).getD ((((A 5).getD (F 3 2).toInt.toNat 0) + y5) - (((A 5).getD (F 3 2).toInt.toNat 0) + y5) / 12 * 12).toInt.toNat 0).toInt.toNat 0) + 1))) else (ks_pourCups_63_3_8 (F 3 2) (F 63 2) (F 63 3) (A 4) (A 5) (A 7) x2 m (y3 ||| ((1 : Int32) <<< (((A 4).getD ((((A 5).getD (F 3 2).toInt.toNat 0) + y5) - (((A 5).getD (F 3 2).toInt.toNat 0) + y5) / 12 * 12).toInt.toNat 0) &&& 31))) (y4 + 1) (y5 + 1) (A 8) (A 9))))) := hT.symm
    clear hT
    refine w_n 2 (pc1 := 12) (ls1 := [some (.ref 63), some (.ref 3), some (.int x2), some (.int y3), some (.int y4), some (.int y5), o6, o7]) (st1 := [.int 12, .int y5]) (hp1 := (hz F A L)) rfl ?_
    refine w_gt (p3 := 15) rfl rfl (fun h => False.elim (by have h : 12 < y5.toInt := h; omega)) (fun hb => ?_)
    refine w_n 6 (pc1 := 27) (ls1 := [some (.ref 63), some (.ref 3), some (.int x2), some (.int y3), some (.int y4), some (.int y5), o6, o7]) (st1 := [.int (F 3 2), .ref 5, .ref 4]) (hp1 := (hz F A L)) rfl ?_
    refine w_al (k := 5) (l := (A 5)) rfl rfl rfl (fun _ => ?_)
    refine w_n 3 (pc1 := 33) (ls1 := [some (.ref 63), some (.ref 3), some (.int x2), some (.int y3), some (.int y4), some (.int y5), o6, o7]) (st1 := [.int 12, .int (((A 5).getD (F 3 2).toInt.toNat 0) + y5), .ref 4]) (hp1 := (hz F A L)) rfl ?_
    refine w_rm rfl rfl (fun _ => ?_)
    refine w_al (k := 4) (l := (A 4)) rfl rfl rfl (fun _ => ?_)
    refine w_n 3 (pc1 := 40) (ls1 := [some (.ref 63), some (.ref 3), some (.int x2), some (.int y3), some (.int y4), some (.int y5), some (.int ((A 4).getD ((((A 5).getD (F 3 2).toInt.toNat 0) + y5) - (((A 5).getD (F 3 2).toInt.toNat 0) + y5) / 12 * 12).toInt.toNat 0)), o7]) (st1 := [.int (-1), .int ((A 4).getD ((((A 5).getD (F 3 2).toInt.toNat 0) + y5) - (((A 5).getD (F 3 2).toInt.toNat 0) + y5) / 12 * 12).toInt.toNat 0)]) (hp1 := (hz F A L)) rfl ?_
    refine w_ne (p3 := 43) rfl rfl (fun h => ?_) (fun h => ?_)
    · have h1 : ¬ ((A 4).getD ((((A 5).getD (F 3 2).toInt.toNat 0) + y5) - (((A 5).getD (F 3 2).toInt.toNat 0) + y5) / 12 * 12).toInt.toNat 0) = (-1) := h
      rw [if_neg h1] at hE
      refine w_n 3 (pc1 := 50) (ls1 := [some (.ref 63), some (.ref 3), some (.int x2), some (.int y3), some (.int y4), some (.int y5), some (.int ((A 4).getD ((((A 5).getD (F 3 2).toInt.toNat 0) + y5) - (((A 5).getD (F 3 2).toInt.toNat 0) + y5) / 12 * 12).toInt.toNat 0)), o7]) (st1 := [.int x2, .int y4, .ref 63]) (hp1 := (hz F A L)) rfl ?_
      refine w_c rfl rfl (t_ks_heatOf ?_)
      show wl_E f _ _ mm55.2.2.2.2.2.2.2.2 53 [some (.ref 63), some (.ref 3), some (.int x2), some (.int y3), some (.int y4), some (.int y5), some (.int ((A 4).getD ((((A 5).getD (F 3 2).toInt.toNat 0) + y5) - (((A 5).getD (F 3 2).toInt.toNat 0) + y5) / 12 * 12).toInt.toNat 0)), o7] [.int (ks_heatOf (F 63 2) (F 63 3) y4 x2)] (hz F A L) _
      generalize hG49 : (ks_heatOf (F 63 2) (F 63 3) y4 x2) = G49 at hE ⊢
      refine w_n 3 (pc1 := 58) (ls1 := [some (.ref 63), some (.ref 3), some (.int x2), some (.int y3), some (.int y4), some (.int y5), some (.int ((A 4).getD ((((A 5).getD (F 3 2).toInt.toNat 0) + y5) - (((A 5).getD (F 3 2).toInt.toNat 0) + y5) / 12 * 12).toInt.toNat 0)), some (.int G49)]) (st1 := [.int (-1), .int G49]) (hp1 := (hz F A L)) rfl ?_
      refine w_ne (p3 := 61) rfl rfl (fun h => ?_) (fun h => ?_)
      · have h2 : ¬ G49 = (-1) := h
        rw [if_neg h2] at hE
        refine w_n 4 (pc1 := 72) (ls1 := [some (.ref 63), some (.ref 3), some (.int x2), some (.int y3), some (.int (y4 + 1)), some (.int y5), some (.int ((A 4).getD ((((A 5).getD (F 3 2).toInt.toNat 0) + y5) - (((A 5).getD (F 3 2).toInt.toNat 0) + y5) / 12 * 12).toInt.toNat 0)), some (.int G49)]) (st1 := [.int ((A 4).getD ((((A 5).getD (F 3 2).toInt.toNat 0) + y5) - (((A 5).getD (F 3 2).toInt.toNat 0) + y5) / 12 * 12).toInt.toNat 0), .ref 7]) (hp1 := (hz F A L)) rfl ?_
        refine w_al (k := 7) (l := (A 7)) rfl rfl rfl (fun _ => ?_)
        refine w_n 1 (pc1 := 75) (ls1 := [some (.ref 63), some (.ref 3), some (.int x2), some (.int y3), some (.int (y4 + 1)), some (.int y5), some (.int ((A 4).getD ((((A 5).getD (F 3 2).toInt.toNat 0) + y5) - (((A 5).getD (F 3 2).toInt.toNat 0) + y5) / 12 * 12).toInt.toNat 0)), some (.int G49)]) (st1 := [.int G49, .int ((A 7).getD ((A 4).getD ((((A 5).getD (F 3 2).toInt.toNat 0) + y5) - (((A 5).getD (F 3 2).toInt.toNat 0) + y5) / 12 * 12).toInt.toNat 0).toInt.toNat 0)]) (hp1 := (hz F A L)) rfl ?_
        refine w_lt (p3 := 78) rfl rfl (fun h => ?_) (fun h => ?_)
        · have h3 : ((A 7).getD ((A 4).getD ((((A 5).getD (F 3 2).toInt.toNat 0) + y5) - (((A 5).getD (F 3 2).toInt.toNat 0) + y5) / 12 * 12).toInt.toNat 0).toInt.toNat 0).toInt < G49.toInt := h
          rw [if_pos h3] at hE
          refine w_n 4 (pc1 := 95) (ls1 := [some (.ref 63), some (.ref 3), some (.int x2), some (.int y3), some (.int (y4 + 1)), some (.int y5), some (.int ((A 4).getD ((((A 5).getD (F 3 2).toInt.toNat 0) + y5) - (((A 5).getD (F 3 2).toInt.toNat 0) + y5) / 12 * 12).toInt.toNat 0)), some (.int G49)]) (st1 := [.int ((A 4).getD ((((A 5).getD (F 3 2).toInt.toNat 0) + y5) - (((A 5).getD (F 3 2).toInt.toNat 0) + y5) / 12 * 12).toInt.toNat 0), .ref 9, .int ((A 4).getD ((((A 5).getD (F 3 2).toInt.toNat 0) + y5) - (((A 5).getD (F 3 2).toInt.toNat 0) + y5) / 12 * 12).toInt.toNat 0), .ref 9]) (hp1 := (hz F A L)) rfl ?_
          refine w_al (k := 9) (l := (A 9)) rfl rfl rfl (fun _ => ?_)
          refine w_n 2 (pc1 := 98) (ls1 := [some (.ref 63), some (.ref 3), some (.int x2), some (.int y3), some (.int (y4 + 1)), some (.int y5), some (.int ((A 4).getD ((((A 5).getD (F 3 2).toInt.toNat 0) + y5) - (((A 5).getD (F 3 2).toInt.toNat 0) + y5) / 12 * 12).toInt.toNat 0)), some (.int G49)]) (st1 := [.int (((A 9).getD ((A 4).getD ((((A 5).getD (F 3 2).toInt.toNat 0) + y5) - (((A 5).getD (F 3 2).toInt.toNat 0) + y5) / 12 * 12).toInt.toNat 0).toInt.toNat 0) + 1), .int ((A 4).getD ((((A 5).getD (F 3 2).toInt.toNat 0) + y5) - (((A 5).getD (F 3 2).toInt.toNat 0) + y5) / 12 * 12).toInt.toNat 0), .ref 9]) (hp1 := (hz F A L)) rfl ?_
          refine w_as (k := 9) (l := (A 9)) (hp1 := (hz F (uA A 9 ((A 9).set ((A 4).getD ((((A 5).getD (F 3 2).toInt.toNat 0) + y5) - (((A 5).getD (F 3 2).toInt.toNat 0) + y5) / 12 * 12).toInt.toNat 0).toInt.toNat (((A 9).getD ((A 4).getD ((((A 5).getD (F 3 2).toInt.toNat 0) + y5) - (((A 5).getD (F 3 2).toInt.toNat 0) + y5) / 12 * 12).toInt.toNat 0).toInt.toNat 0) + 1))) L)) rfl rfl rfl (hz_s9 _) (fun _ => ?_)
          refine w_n 7 (pc1 := 112) (ls1 := [some (.ref 63), some (.ref 3), some (.int x2), some (.int y3), some (.int (y4 + 1)), some (.int y5), some (.int ((A 4).getD ((((A 5).getD (F 3 2).toInt.toNat 0) + y5) - (((A 5).getD (F 3 2).toInt.toNat 0) + y5) / 12 * 12).toInt.toNat 0)), some (.int G49)]) (st1 := [.int ((A 4).getD ((((A 5).getD (F 3 2).toInt.toNat 0) + y5) - (((A 5).getD (F 3 2).toInt.toNat 0) + y5) / 12 * 12).toInt.toNat 0), .ref 8, .int 0, .int ((A 4).getD ((((A 5).getD (F 3 2).toInt.toNat 0) + y5) - (((A 5).getD (F 3 2).toInt.toNat 0) + y5) / 12 * 12).toInt.toNat 0), .ref 8]) (hp1 := (hz F (uA A 9 ((A 9).set ((A 4).getD ((((A 5).getD (F 3 2).toInt.toNat 0) + y5) - (((A 5).getD (F 3 2).toInt.toNat 0) + y5) / 12 * 12).toInt.toNat 0).toInt.toNat (((A 9).getD ((A 4).getD ((((A 5).getD (F 3 2).toInt.toNat 0) + y5) - (((A 5).getD (F 3 2).toInt.toNat 0) + y5) / 12 * 12).toInt.toNat 0).toInt.toNat 0) + 1))) L)) rfl ?_
          refine w_al (k := 8) (l := (A 8)) rfl rfl rfl (fun _ => ?_)
          refine w_n 2 (pc1 := 115) (ls1 := [some (.ref 63), some (.ref 3), some (.int x2), some (.int y3), some (.int (y4 + 1)), some (.int y5), some (.int ((A 4).getD ((((A 5).getD (F 3 2).toInt.toNat 0) + y5) - (((A 5).getD (F 3 2).toInt.toNat 0) + y5) / 12 * 12).toInt.toNat 0)), some (.int G49)]) (st1 := [.int (((A 8).getD ((A 4).getD ((((A 5).getD (F 3 2).toInt.toNat 0) + y5) - (((A 5).getD (F 3 2).toInt.toNat 0) + y5) / 12 * 12).toInt.toNat 0).toInt.toNat 0) - 1), .int 0, .int ((A 4).getD ((((A 5).getD (F 3 2).toInt.toNat 0) + y5) - (((A 5).getD (F 3 2).toInt.toNat 0) + y5) / 12 * 12).toInt.toNat 0), .ref 8]) (hp1 := (hz F (uA A 9 ((A 9).set ((A 4).getD ((((A 5).getD (F 3 2).toInt.toNat 0) + y5) - (((A 5).getD (F 3 2).toInt.toNat 0) + y5) / 12 * 12).toInt.toNat 0).toInt.toNat (((A 9).getD ((A 4).getD ((((A 5).getD (F 3 2).toInt.toNat 0) + y5) - (((A 5).getD (F 3 2).toInt.toNat 0) + y5) / 12 * 12).toInt.toNat 0).toInt.toNat 0) + 1))) L)) rfl ?_
          refine w_c rfl rfl (t_kjm_max ?_)
          show wl_E f _ _ mm55.2.2.2.2.2.2.2.2 118 [some (.ref 63), some (.ref 3), some (.int x2), some (.int y3), some (.int (y4 + 1)), some (.int y5), some (.int ((A 4).getD ((((A 5).getD (F 3 2).toInt.toNat 0) + y5) - (((A 5).getD (F 3 2).toInt.toNat 0) + y5) / 12 * 12).toInt.toNat 0)), some (.int G49)] [.int (kjm_max 0 (((A 8).getD ((A 4).getD ((((A 5).getD (F 3 2).toInt.toNat 0) + y5) - (((A 5).getD (F 3 2).toInt.toNat 0) + y5) / 12 * 12).toInt.toNat 0).toInt.toNat 0) - 1)), .int ((A 4).getD ((((A 5).getD (F 3 2).toInt.toNat 0) + y5) - (((A 5).getD (F 3 2).toInt.toNat 0) + y5) / 12 * 12).toInt.toNat 0), .ref 8] (hz F (uA A 9 ((A 9).set ((A 4).getD ((((A 5).getD (F 3 2).toInt.toNat 0) + y5) - (((A 5).getD (F 3 2).toInt.toNat 0) + y5) / 12 * 12).toInt.toNat 0).toInt.toNat (((A 9).getD ((A 4).getD ((((A 5).getD (F 3 2).toInt.toNat 0) + y5) - (((A 5).getD (F 3 2).toInt.toNat 0) + y5) / 12 * 12).toInt.toNat 0).toInt.toNat 0) + 1))) L) _
          generalize hG50 : (kjm_max 0 (((A 8).getD ((A 4).getD ((((A 5).getD (F 3 2).toInt.toNat 0) + y5) - (((A 5).getD (F 3 2).toInt.toNat 0) + y5) / 12 * 12).toInt.toNat 0).toInt.toNat 0) - 1)) = G50 at hE ⊢
          refine w_as (k := 8) (l := (A 8)) (hp1 := (hz F (uA (uA A 9 ((A 9).set ((A 4).getD ((((A 5).getD (F 3 2).toInt.toNat 0) + y5) - (((A 5).getD (F 3 2).toInt.toNat 0) + y5) / 12 * 12).toInt.toNat 0).toInt.toNat (((A 9).getD ((A 4).getD ((((A 5).getD (F 3 2).toInt.toNat 0) + y5) - (((A 5).getD (F 3 2).toInt.toNat 0) + y5) / 12 * 12).toInt.toNat 0).toInt.toNat 0) + 1))) 8 ((A 8).set ((A 4).getD ((((A 5).getD (F 3 2).toInt.toNat 0) + y5) - (((A 5).getD (F 3 2).toInt.toNat 0) + y5) / 12 * 12).toInt.toNat 0).toInt.toNat G50)) L)) rfl rfl rfl (hz_s8 _) (fun _ => ?_)
          refine w_n 2 (pc1 := 8) (ls1 := [some (.ref 63), some (.ref 3), some (.int x2), some (.int y3), some (.int (y4 + 1)), some (.int (y5 + 1)), some (.int ((A 4).getD ((((A 5).getD (F 3 2).toInt.toNat 0) + y5) - (((A 5).getD (F 3 2).toInt.toNat 0) + y5) / 12 * 12).toInt.toNat 0)), some (.int G49)]) (st1 := []) (hp1 := (hz F (uA (uA A 9 ((A 9).set ((A 4).getD ((((A 5).getD (F 3 2).toInt.toNat 0) + y5) - (((A 5).getD (F 3 2).toInt.toNat 0) + y5) / 12 * 12).toInt.toNat 0).toInt.toNat (((A 9).getD ((A 4).getD ((((A 5).getD (F 3 2).toInt.toNat 0) + y5) - (((A 5).getD (F 3 2).toInt.toNat 0) + y5) / 12 * 12).toInt.toNat 0).toInt.toNat 0) + 1))) 8 ((A 8).set ((A 4).getD ((((A 5).getD (F 3 2).toInt.toNat 0) + y5) - (((A 5).getD (F 3 2).toInt.toNat 0) + y5) / 12 * 12).toInt.toNat 0).toInt.toNat G50)) L)) rfl ?_
          subst T
          have hb2 := i_up2 (B := (12 : Int32)) hb (by first | decide | exact hB | assumption)
          have hb3 : y5.toInt ≤ 12 := hb
          exact ih (show m = (12 + 1 - (y5 + 1).toInt).toNat by rw [hb2]; omega) (cvQ rfl (funext fun q => if k0 : q = 8 then by subst k0; exact Eq.trans (b := (ks_pourCups_63_3_8 (F 3 2) (F 63 2) (F 63 3) (A 4) (A 5) (A 7) x2 m y3 (y4 + 1) (y5 + 1) ((A 8).set ((A 4).getD ((((A 5).getD (F 3 2).toInt.toNat 0) + y5) - (((A 5).getD (F 3 2).toInt.toNat 0) + y5) / 12 * 12).toInt.toNat 0).toInt.toNat G50) ((A 9).set ((A 4).getD ((((A 5).getD (F 3 2).toInt.toNat 0) + y5) - (((A 5).getD (F 3 2).toInt.toNat 0) + y5) / 12 * 12).toInt.toNat 0).toInt.toNat (((A 9).getD ((A 4).getD ((((A 5).getD (F 3 2).toInt.toNat 0) + y5) - (((A 5).getD (F 3 2).toInt.toNat 0) + y5) / 12 * 12).toInt.toNat 0).toInt.toNat 0) + 1))).2.1) rfl rfl else if k1 : q = 9 then by subst k1; exact Eq.trans (b := (ks_pourCups_63_3_8 (F 3 2) (F 63 2) (F 63 3) (A 4) (A 5) (A 7) x2 m y3 (y4 + 1) (y5 + 1) ((A 8).set ((A 4).getD ((((A 5).getD (F 3 2).toInt.toNat 0) + y5) - (((A 5).getD (F 3 2).toInt.toNat 0) + y5) / 12 * 12).toInt.toNat 0).toInt.toNat G50) ((A 9).set ((A 4).getD ((((A 5).getD (F 3 2).toInt.toNat 0) + y5) - (((A 5).getD (F 3 2).toInt.toNat 0) + y5) / 12 * 12).toInt.toNat 0).toInt.toNat (((A 9).getD ((A 4).getD ((((A 5).getD (F 3 2).toInt.toNat 0) + y5) - (((A 5).getD (F 3 2).toInt.toNat 0) + y5) / 12 * 12).toInt.toNat 0).toInt.toNat 0) + 1))).2.2) rfl rfl else by unfold uA; simp only [nb1 k0, nb1 k1, cond_false]) rfl K)
        · have h3 : G49.toInt ≤ ((A 7).getD ((A 4).getD ((((A 5).getD (F 3 2).toInt.toNat 0) + y5) - (((A 5).getD (F 3 2).toInt.toNat 0) + y5) / 12 * 12).toInt.toNat 0).toInt.toNat 0).toInt := h
          rw [if_neg (Int.not_lt.mpr h3)] at hE
          refine w_n 9 (pc1 := 8) (ls1 := [some (.ref 63), some (.ref 3), some (.int x2), some (.int (y3 ||| ((1 : Int32) <<< (((A 4).getD ((((A 5).getD (F 3 2).toInt.toNat 0) + y5) - (((A 5).getD (F 3 2).toInt.toNat 0) + y5) / 12 * 12).toInt.toNat 0) &&& 31)))), some (.int (y4 + 1)), some (.int (y5 + 1)), some (.int ((A 4).getD ((((A 5).getD (F 3 2).toInt.toNat 0) + y5) - (((A 5).getD (F 3 2).toInt.toNat 0) + y5) / 12 * 12).toInt.toNat 0)), some (.int G49)]) (st1 := []) (hp1 := (hz F A L)) rfl ?_
          subst T
          have hb2 := i_up2 (B := (12 : Int32)) hb (by first | decide | exact hB | assumption)
          have hb3 : y5.toInt ≤ 12 := hb
          exact ih (show m = (12 + 1 - (y5 + 1).toInt).toNat by rw [hb2]; omega) (cvQ rfl (funext fun q => if k0 : q = 8 then by subst k0; exact Eq.trans (b := (ks_pourCups_63_3_8 (F 3 2) (F 63 2) (F 63 3) (A 4) (A 5) (A 7) x2 m (y3 ||| ((1 : Int32) <<< (((A 4).getD ((((A 5).getD (F 3 2).toInt.toNat 0) + y5) - (((A 5).getD (F 3 2).toInt.toNat 0) + y5) / 12 * 12).toInt.toNat 0) &&& 31))) (y4 + 1) (y5 + 1) (A 8) (A 9)).2.1) rfl rfl else if k1 : q = 9 then by subst k1; exact Eq.trans (b := (ks_pourCups_63_3_8 (F 3 2) (F 63 2) (F 63 3) (A 4) (A 5) (A 7) x2 m (y3 ||| ((1 : Int32) <<< (((A 4).getD ((((A 5).getD (F 3 2).toInt.toNat 0) + y5) - (((A 5).getD (F 3 2).toInt.toNat 0) + y5) / 12 * 12).toInt.toNat 0) &&& 31))) (y4 + 1) (y5 + 1) (A 8) (A 9)).2.2) rfl rfl else by unfold uA; simp only [nb1 k0, nb1 k1, cond_false]) rfl K)
      · have h2 : G49 = (-1) := h
        rw [if_pos h2] at hE
        refine w_n 1 (pc1 := 62) (ls1 := [some (.ref 63), some (.ref 3), some (.int x2), some (.int y3), some (.int y4), some (.int y5), some (.int ((A 4).getD ((((A 5).getD (F 3 2).toInt.toNat 0) + y5) - (((A 5).getD (F 3 2).toInt.toNat 0) + y5) / 12 * 12).toInt.toNat 0)), some (.int G49)]) (st1 := [.int y3]) (hp1 := (hz F A L)) rfl ?_
        subst T
        exact w_ri rfl (cvQ rfl (funext fun q => if k0 : q = 8 then by subst k0; exact Eq.trans (b := (A 8)) rfl rfl else if k1 : q = 9 then by subst k1; exact Eq.trans (b := (A 9)) rfl rfl else by unfold uA; simp only [nb1 k0, nb1 k1, cond_false]) rfl K)
    · have h1 : ((A 4).getD ((((A 5).getD (F 3 2).toInt.toNat 0) + y5) - (((A 5).getD (F 3 2).toInt.toNat 0) + y5) / 12 * 12).toInt.toNat 0) = (-1) := h
      rw [if_pos h1] at hE
      refine w_n 3 (pc1 := 8) (ls1 := [some (.ref 63), some (.ref 3), some (.int x2), some (.int y3), some (.int y4), some (.int (y5 + 1)), some (.int ((A 4).getD ((((A 5).getD (F 3 2).toInt.toNat 0) + y5) - (((A 5).getD (F 3 2).toInt.toNat 0) + y5) / 12 * 12).toInt.toNat 0)), o7]) (st1 := []) (hp1 := (hz F A L)) rfl ?_
      subst T
      have hb2 := i_up2 (B := (12 : Int32)) hb (by first | decide | exact hB | assumption)
      have hb3 : y5.toInt ≤ 12 := hb
      exact ih (show m = (12 + 1 - (y5 + 1).toInt).toNat by rw [hb2]; omega) (cvQ rfl (funext fun q => if k0 : q = 8 then by subst k0; exact Eq.trans (b := (ks_pourCups_63_3_8 (F 3 2) (F 63 2) (F 63 3) (A 4) (A 5) (A 7) x2 m y3 y4 (y5 + 1) (A 8) (A 9)).2.1) rfl rfl else if k1 : q = 9 then by subst k1; exact Eq.trans (b := (ks_pourCups_63_3_8 (F 3 2) (F 63 2) (F 63 3) (A 4) (A 5) (A 7) x2 m y3 y4 (y5 + 1) (A 8) (A 9)).2.2) rfl rfl else by unfold uA; simp only [nb1 k0, nb1 k1, cond_false]) rfl K)
noncomputable def ks_pourCups_63_3 (f3_2 : Int32) (f63_2 : Int32) (f63_3 : Int32) (a4 : List Int32) (a5 : List Int32) (a7 : List Int32) (a8 : List Int32) (a9 : List Int32) (x2 : Int32) : Int32 × List Int32 × List Int32 := (ks_pourCups_63_3_8 f3_2 f63_2 f63_3 a4 a5 a7 x2 12 0 0 1 a8 a9)
theorem t_ks_pourCups_63_3 {f D : Nat} {F : Nat → Nat → Int32} {A : Nat → List Int32} {L : Nat → List Int64} {Q : Option Value → sm_H → Prop} {x2 : Int32} (K : Q (some (.int ((ks_pourCups_63_3 (F 3 2) (F 63 2) (F 63 3) (A 4) (A 5) (A 7) (A 8) (A 9) x2).1))) (hz F (uA (uA A 8 ((ks_pourCups_63_3 (F 3 2) (F 63 2) (F 63 3) (A 4) (A 5) (A 7) (A 8) (A 9) x2).2.1)) 9 ((ks_pourCups_63_3 (F 3 2) (F 63 2) (F 63 3) (A 4) (A 5) (A 7) (A 8) (A 9) x2).2.2)) L)) : wl_M f D 55 [.ref 63, .ref 3, .int x2] (hz F A L) Q := by
  generalize hT : (ks_pourCups_63_3 (F 3 2) (F 63 2) (F 63 3) (A 4) (A 5) (A 7) (A 8) (A 9) x2) = T at K
  have hE : T = (ks_pourCups_63_3_8 (F 3 2) (F 63 2) (F 63 3) (A 4) (A 5) (A 7) x2 12 0 0 1 (A 8) (A 9)) := hT.symm
  clear hT
  refine w_m (E := mm55) rfl ?_
  show wl_E f f (D - 1) mm55.2.2.2.2.2.2.2.2 0 [some (.ref 63), some (.ref 3), some (.int x2), none, none, none, none, none] [] (hz F A L) Q
  refine w_n 6 (pc1 := 8) (ls1 := [some (.ref 63), some (.ref 3), some (.int x2), some (.int 0), some (.int 0), some (.int 1), none, none]) (st1 := []) (hp1 := (hz F A L)) rfl ?_
  subst T
  exact t_ks_pourCups_63_3_8 _ (show (12 : Nat) = (12 + 1 - (1 : Int32).toInt).toNat by have e0 : (1 : Int32).toInt = 1 := rfl; first | rfl | omega) (cvQ rfl (funext fun q => if k0 : q = 8 then by subst k0; exact Eq.trans (b := (ks_pourCups_63_3_8 (F 3 2) (F 63 2) (F 63 3) (A 4) (A 5) (A 7) x2 12 0 0 1 (A 8) (A 9)).2.1) rfl rfl else if k1 : q = 9 then by subst k1; exact Eq.trans (b := (ks_pourCups_63_3_8 (F 3 2) (F 63 2) (F 63 3) (A 4) (A 5) (A 7) x2 12 0 0 1 (A 8) (A 9)).2.2) rfl rfl else by unfold uA; simp only [nb1 k0, nb1 k1, cond_false]) rfl K)
noncomputable def kt_allMeasures (f3_0 : Int32) : Int32 := (((1 : Int32) <<< (f3_0 &&& 31)) - 1)
theorem t_kt_allMeasures {f D : Nat} {F : Nat → Nat → Int32} {A : Nat → List Int32} {L : Nat → List Int64} {Q : Option Value → sm_H → Prop} (K : Q (some (.int (kt_allMeasures (F 3 0)))) (hz F A L)) : wl_M f D 59 [.ref 3] (hz F A L) Q := by
  generalize hT : (kt_allMeasures (F 3 0)) = T at K
  have hE : T = (((1 : Int32) <<< ((F 3 0) &&& 31)) - 1) := hT.symm
  clear hT
  refine w_m (E := mm59) rfl ?_
  show wl_E f f (D - 1) mm59.2.2.2.2.2.2.2.2 0 [some (.ref 3)] [] (hz F A L) Q
  refine w_n 6 (pc1 := 8) (ls1 := [some (.ref 3)]) (st1 := [.int (((1 : Int32) <<< ((F 3 0) &&& 31)) - 1)]) (hp1 := (hz F A L)) rfl ?_
  subst T
  exact w_ri rfl (cvQ rfl rfl rfl K)
