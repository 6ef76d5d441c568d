/-! the lift of law of the reference, printed by genlift.py: 2 -/
noncomputable def km_lands_0 (f67_14 : Int32) (a73 : List Int32) (x1 : Int32) : Nat → Int32 → List Int32 → Int32 × List Int32
  | 0, f67_15, a72 => (f67_15, a72)
  | m + 1, f67_15, a72 => (if (km_waitTop f67_15 a73) = 11 then (km_lands_0 f67_14 a73 x1 m (f67_15 - 1) (a72.set ((a73.getD (f67_15 - 1).toInt.toNat 0) - (a73.getD (f67_15 - 1).toInt.toNat 0) / 1048576 * 1048576).toInt.toNat ((1048576 * ((a72.getD ((a73.getD (f67_15 - 1).toInt.toNat 0) - (a73.getD (f67_15 - 1).toInt.toNat 0) / 1048576 * 1048576).toInt.toNat 0) / 1048576)) + f67_14))) else (if x1 = 0 then (f67_15, a72) else (if (km_waitTop f67_15 a73) = 12 then (km_lands_0 f67_14 a73 x1 m (f67_15 - 1) (a72.set ((a73.getD (f67_15 - 1).toInt.toNat 0) - (a73.getD (f67_15 - 1).toInt.toNat 0) / 1048576 * 1048576).toInt.toNat ((1048576 * ((a72.getD ((a73.getD (f67_15 - 1).toInt.toNat 0) - (a73.getD (f67_15 - 1).toInt.toNat 0) / 1048576 * 1048576).toInt.toNat 0) / 1048576)) + f67_14))) else (f67_15, a72))))
theorem t_km_lands_0 {f : Nat} {Q : Option Value → sm_H → Prop} : ∀ (m : Nat) (B : Nat) {D : Nat} {F : Nat → Nat → Int32} {A : Nat → List Int32} {L : Nat → List Int64} {x1 : Int32} {o2 : Option Value}, B ≤ m → (∀ q2 : Option Value, wl_E f B D mm169.2.2.2.2.2.2.2.2 73 [some (.ref 67), some (.int x1), q2] [] (hz (uF F 67 15 ((km_lands_0 (F 67 14) (A 73) x1 m (F 67 15) (A 72)).1)) (uA A 72 ((km_lands_0 (F 67 14) (A 73) x1 m (F 67 15) (A 72)).2)) L) Q) → wl_E f B D mm169.2.2.2.2.2.2.2.2 0 [some (.ref 67), some (.int x1), o2] [] (hz F A L) Q := by
  intro m
  induction m with
  | zero =>
    intro B D F A L x1 o2 hm K
    rw [show B = 0 by omega]
    exact w_0
  | succ m ih =>
    intro B D F A L x1 o2 hm K
    cases B with
    | zero => exact w_0
    | succ B =>
      generalize hT : (km_lands_0 (F 67 14) (A 73) x1 (m + 1) (F 67 15) (A 72)) = T at K
      have hE : T = (if (km_waitTop (F 67 15) (A 73)) = 11 then (km_lands_0 (F 67 14) (A 73) x1 m ((F 67 15) - 1) ((A 72).set (((A 73).getD ((F 67 15) - 1).toInt.toNat 0) - ((A 73).getD ((F 67 15) - 1).toInt.toNat 0) / 1048576 * 1048576).toInt.toNat ((1048576 * (((A 72).getD (((A 73).getD ((F 67 15) - 1).toInt.toNat 0) - ((A 73).getD ((F 67 15) - 1).toInt.toNat 0) / 1048576 * 1048576).toInt.toNat 0) / 1048576)) + (F 67 14)))) else (if x1 = 0 then ((F 67 15), (A 72)) else (if (km_waitTop (F 67 15) (A 73)) = 12 then (km_lands_0 (F 67 14) (A 73) x1 m ((F 67 15) - 1) ((A 72).set (((A 73).getD ((F 67 15) - 1).toInt.toNat 0) - ((A 73).getD ((F 67 15) - 1).toInt.toNat 0) / 1048576 * 1048576).toInt.toNat ((1048576 * (((A 72).getD (((A 73).getD ((F 67 15) - 1).toInt.toNat 0) - ((A 73).getD ((F 67 15) - 1).toInt.toNat 0) / 1048576 * 1048576).toInt.toNat 0) / 1048576)) + (F 67 14)))) else ((F 67 15), (A 72))))) := hT.symm
      clear hT
      refine w_n1 (pc1 := 1) (ls1 := [some (.ref 67), some (.int x1), o2]) (st1 := [.ref 67]) (hp1 := (hz F A L)) rfl ?_
      refine w_c rfl rfl (t_km_waitTop ?_)
      show wl_E f _ _ mm169.2.2.2.2.2.2.2.2 4 [some (.ref 67), some (.int x1), o2] [.int (km_waitTop (F 67 15) (A 73))] (hz F A L) _
      generalize hG519 : (km_waitTop (F 67 15) (A 73)) = G519 at hE ⊢
      refine w_n 1 (pc1 := 6) (ls1 := [some (.ref 67), some (.int x1), o2]) (st1 := [.int 11, .int G519]) (hp1 := (hz F A L)) rfl ?_
      refine w_eq (p3 := 9) rfl rfl (fun h => ?_) (fun h => ?_)
      · have h1 : G519 = 11 := h
        rw [if_pos h1] at hE
        refine w_n 6 (pc1 := 32) (ls1 := [some (.ref 67), some (.int x1), o2]) (st1 := [.int ((F 67 15) - 1), .ref 73]) (hp1 := (hz F A L)) rfl ?_
        refine w_al (k := 73) (l := (A 73)) rfl rfl rfl (fun _ => ?_)
        refine w_n 1 (pc1 := 35) (ls1 := [some (.ref 67), some (.int x1), o2]) (st1 := [.int 1048576, .int ((A 73).getD ((F 67 15) - 1).toInt.toNat 0)]) (hp1 := (hz F A L)) rfl ?_
        refine w_rm rfl rfl (fun _ => ?_)
        refine w_n 8 (pc1 := 49) (ls1 := [some (.ref 67), some (.int x1), some (.int (((A 73).getD ((F 67 15) - 1).toInt.toNat 0) - ((A 73).getD ((F 67 15) - 1).toInt.toNat 0) / 1048576 * 1048576))]) (st1 := [.int (((A 73).getD ((F 67 15) - 1).toInt.toNat 0) - ((A 73).getD ((F 67 15) - 1).toInt.toNat 0) / 1048576 * 1048576), .ref 72, .int 1048576, .int (((A 73).getD ((F 67 15) - 1).toInt.toNat 0) - ((A 73).getD ((F 67 15) - 1).toInt.toNat 0) / 1048576 * 1048576), .ref 72]) (hp1 := (hz F A L)) rfl ?_
        refine w_al (k := 72) (l := (A 72)) rfl rfl rfl (fun _ => ?_)
        refine w_n 1 (pc1 := 52) (ls1 := [some (.ref 67), some (.int x1), some (.int (((A 73).getD ((F 67 15) - 1).toInt.toNat 0) - ((A 73).getD ((F 67 15) - 1).toInt.toNat 0) / 1048576 * 1048576))]) (st1 := [.int 1048576, .int ((A 72).getD (((A 73).getD ((F 67 15) - 1).toInt.toNat 0) - ((A 73).getD ((F 67 15) - 1).toInt.toNat 0) / 1048576 * 1048576).toInt.toNat 0), .int 1048576, .int (((A 73).getD ((F 67 15) - 1).toInt.toNat 0) - ((A 73).getD ((F 67 15) - 1).toInt.toNat 0) / 1048576 * 1048576), .ref 72]) (hp1 := (hz F A L)) rfl ?_
        refine w_dv rfl rfl (fun _ => ?_)
        refine w_n 4 (pc1 := 59) (ls1 := [some (.ref 67), some (.int x1), some (.int (((A 73).getD ((F 67 15) - 1).toInt.toNat 0) - ((A 73).getD ((F 67 15) - 1).toInt.toNat 0) / 1048576 * 1048576))]) (st1 := [.int ((1048576 * (((A 72).getD (((A 73).getD ((F 67 15) - 1).toInt.toNat 0) - ((A 73).getD ((F 67 15) - 1).toInt.toNat 0) / 1048576 * 1048576).toInt.toNat 0) / 1048576)) + (F 67 14)), .int (((A 73).getD ((F 67 15) - 1).toInt.toNat 0) - ((A 73).getD ((F 67 15) - 1).toInt.toNat 0) / 1048576 * 1048576), .ref 72]) (hp1 := (hz F A L)) rfl ?_
        refine w_as (k := 72) (l := (A 72)) (hp1 := (hz F (uA A 72 ((A 72).set (((A 73).getD ((F 67 15) - 1).toInt.toNat 0) - ((A 73).getD ((F 67 15) - 1).toInt.toNat 0) / 1048576 * 1048576).toInt.toNat ((1048576 * (((A 72).getD (((A 73).getD ((F 67 15) - 1).toInt.toNat 0) - ((A 73).getD ((F 67 15) - 1).toInt.toNat 0) / 1048576 * 1048576).toInt.toNat 0) / 1048576)) + (F 67 14)))) L)) rfl rfl rfl (hz_s72 _) (fun _ => ?_)
        refine w_n 5 (pc1 := 67) (ls1 := [some (.ref 67), some (.int x1), some (.int (((A 73).getD ((F 67 15) - 1).toInt.toNat 0) - ((A 73).getD ((F 67 15) - 1).toInt.toNat 0) / 1048576 * 1048576))]) (st1 := [.int ((F 67 15) - 1), .ref 67]) (hp1 := (hz F (uA A 72 ((A 72).set (((A 73).getD ((F 67 15) - 1).toInt.toNat 0) - ((A 73).getD ((F 67 15) - 1).toInt.toNat 0) / 1048576 * 1048576).toInt.toNat ((1048576 * (((A 72).getD (((A 73).getD ((F 67 15) - 1).toInt.toNat 0) - ((A 73).getD ((F 67 15) - 1).toInt.toNat 0) / 1048576 * 1048576).toInt.toNat 0) / 1048576)) + (F 67 14)))) L)) rfl ?_
        refine w_pf (k := 67) (fs := hz_f67 F) (hp1 := (hz (uF F 67 15 ((F 67 15) - 1)) (uA A 72 ((A 72).set (((A 73).getD ((F 67 15) - 1).toInt.toNat 0) - ((A 73).getD ((F 67 15) - 1).toInt.toNat 0) / 1048576 * 1048576).toInt.toNat ((1048576 * (((A 72).getD (((A 73).getD ((F 67 15) - 1).toInt.toNat 0) - ((A 73).getD ((F 67 15) - 1).toInt.toNat 0) / 1048576 * 1048576).toInt.toNat 0) / 1048576)) + (F 67 14)))) L)) rfl rfl rfl (hz_p67_15 _) ?_
        refine w_n 1 (pc1 := 0) (ls1 := [some (.ref 67), some (.int x1), some (.int (((A 73).getD ((F 67 15) - 1).toInt.toNat 0) - ((A 73).getD ((F 67 15) - 1).toInt.toNat 0) / 1048576 * 1048576))]) (st1 := []) (hp1 := (hz (uF F 67 15 ((F 67 15) - 1)) (uA A 72 ((A 72).set (((A 73).getD ((F 67 15) - 1).toInt.toNat 0) - ((A 73).getD ((F 67 15) - 1).toInt.toNat 0) / 1048576 * 1048576).toInt.toNat ((1048576 * (((A 72).getD (((A 73).getD ((F 67 15) - 1).toInt.toNat 0) - ((A 73).getD ((F 67 15) - 1).toInt.toNat 0) / 1048576 * 1048576).toInt.toNat 0) / 1048576)) + (F 67 14)))) L)) rfl ?_
        subst T
        exact ih _ (by omega) (fun q2 => cvE (funext fun q => funext fun z => if k0 : q = 67 ∧ z = 15 then by obtain ⟨w1, w2⟩ := k0; subst w1; subst w2; exact Eq.trans (b := (km_lands_0 (F 67 14) (A 73) x1 m ((F 67 15) - 1) ((A 72).set (((A 73).getD ((F 67 15) - 1).toInt.toNat 0) - ((A 73).getD ((F 67 15) - 1).toInt.toNat 0) / 1048576 * 1048576).toInt.toNat ((1048576 * (((A 72).getD (((A 73).getD ((F 67 15) - 1).toInt.toNat 0) - ((A 73).getD ((F 67 15) - 1).toInt.toNat 0) / 1048576 * 1048576).toInt.toNat 0) / 1048576)) + (F 67 14)))).1) rfl rfl else by unfold uF; simp only [nb2 k0, cond_false]) (funext fun q => if k0 : q = 72 then by subst k0; exact Eq.trans (b := (km_lands_0 (F 67 14) (A 73) x1 m ((F 67 15) - 1) ((A 72).set (((A 73).getD ((F 67 15) - 1).toInt.toNat 0) - ((A 73).getD ((F 67 15) - 1).toInt.toNat 0) / 1048576 * 1048576).toInt.toNat ((1048576 * (((A 72).getD (((A 73).getD ((F 67 15) - 1).toInt.toNat 0) - ((A 73).getD ((F 67 15) - 1).toInt.toNat 0) / 1048576 * 1048576).toInt.toNat 0) / 1048576)) + (F 67 14)))).2) rfl rfl else by unfold uA; simp only [nb1 k0, cond_false]) rfl (wl_le (Nat.le_succ _) (K q2)))
      · have h1 : ¬ G519 = 11 := h
        rw [if_neg h1] at hE
        refine w_n 1 (pc1 := 10) (ls1 := [some (.ref 67), some (.int x1), o2]) (st1 := [.int x1]) (hp1 := (hz F A L)) rfl ?_
        refine w_zeq (p3 := 13) rfl rfl (fun h => ?_) (fun h => ?_)
        · have h2 : x1 = 0 := h
          rw [if_pos h2] at hE
          subst T
          exact cvE (funext fun q => funext fun z => if k0 : q = 67 ∧ z = 15 then by obtain ⟨w1, w2⟩ := k0; subst w1; subst w2; exact Eq.trans (b := (F 67 15)) rfl rfl else by unfold uF; simp only [nb2 k0, cond_false]) (funext fun q => if k0 : q = 72 then by subst k0; exact Eq.trans (b := (A 72)) rfl rfl else by unfold uA; simp only [nb1 k0, cond_false]) rfl (wl_le (Nat.le_succ _) (K _))
        · have h2 : ¬ x1 = 0 := h
          rw [if_neg h2] at hE
          refine w_n 1 (pc1 := 14) (ls1 := [some (.ref 67), some (.int x1), o2]) (st1 := [.ref 67]) (hp1 := (hz F A L)) rfl ?_
          refine w_c rfl rfl (t_km_waitTop ?_)
          show wl_E f _ _ mm169.2.2.2.2.2.2.2.2 17 [some (.ref 67), some (.int x1), o2] [.int (km_waitTop (F 67 15) (A 73))] (hz F A L) _
          rw [hG519]
          refine w_n 1 (pc1 := 19) (ls1 := [some (.ref 67), some (.int x1), o2]) (st1 := [.int 12, .int G519]) (hp1 := (hz F A L)) rfl ?_
          refine w_ne (p3 := 22) rfl rfl (fun h => ?_) (fun h => ?_)
          · have h3 : ¬ G519 = 12 := h
            rw [if_neg h3] at hE
            subst T
            exact cvE (funext fun q => funext fun z => if k0 : q = 67 ∧ z = 15 then by obtain ⟨w1, w2⟩ := k0; subst w1; subst w2; exact Eq.trans (b := (F 67 15)) rfl rfl else by unfold uF; simp only [nb2 k0, cond_false]) (funext fun q => if k0 : q = 72 then by subst k0; exact Eq.trans (b := (A 72)) rfl rfl else by unfold uA; simp only [nb1 k0, cond_false]) rfl (wl_le (Nat.le_succ _) (K _))
          · have h3 : G519 = 12 := h
            rw [if_pos h3] at hE
            refine w_n 6 (pc1 := 32) (ls1 := [some (.ref 67), some (.int x1), o2]) (st1 := [.int ((F 67 15) - 1), .ref 73]) (hp1 := (hz F A L)) rfl ?_
            refine w_al (k := 73) (l := (A 73)) rfl rfl rfl (fun _ => ?_)
            refine w_n 1 (pc1 := 35) (ls1 := [some (.ref 67), some (.int x1), o2]) (st1 := [.int 1048576, .int ((A 73).getD ((F 67 15) - 1).toInt.toNat 0)]) (hp1 := (hz F A L)) rfl ?_
            refine w_rm rfl rfl (fun _ => ?_)
            refine w_n 8 (pc1 := 49) (ls1 := [some (.ref 67), some (.int x1), some (.int (((A 73).getD ((F 67 15) - 1).toInt.toNat 0) - ((A 73).getD ((F 67 15) - 1).toInt.toNat 0) / 1048576 * 1048576))]) (st1 := [.int (((A 73).getD ((F 67 15) - 1).toInt.toNat 0) - ((A 73).getD ((F 67 15) - 1).toInt.toNat 0) / 1048576 * 1048576), .ref 72, .int 1048576, .int (((A 73).getD ((F 67 15) - 1).toInt.toNat 0) - ((A 73).getD ((F 67 15) - 1).toInt.toNat 0) / 1048576 * 1048576), .ref 72]) (hp1 := (hz F A L)) rfl ?_
            refine w_al (k := 72) (l := (A 72)) rfl rfl rfl (fun _ => ?_)
            refine w_n 1 (pc1 := 52) (ls1 := [some (.ref 67), some (.int x1), some (.int (((A 73).getD ((F 67 15) - 1).toInt.toNat 0) - ((A 73).getD ((F 67 15) - 1).toInt.toNat 0) / 1048576 * 1048576))]) (st1 := [.int 1048576, .int ((A 72).getD (((A 73).getD ((F 67 15) - 1).toInt.toNat 0) - ((A 73).getD ((F 67 15) - 1).toInt.toNat 0) / 1048576 * 1048576).toInt.toNat 0), .int 1048576, .int (((A 73).getD ((F 67 15) - 1).toInt.toNat 0) - ((A 73).getD ((F 67 15) - 1).toInt.toNat 0) / 1048576 * 1048576), .ref 72]) (hp1 := (hz F A L)) rfl ?_
            refine w_dv rfl rfl (fun _ => ?_)
            refine w_n 4 (pc1 := 59) (ls1 := [some (.ref 67), some (.int x1), some (.int (((A 73).getD ((F 67 15) - 1).toInt.toNat 0) - ((A 73).getD ((F 67 15) - 1).toInt.toNat 0) / 1048576 * 1048576))]) (st1 := [.int ((1048576 * (((A 72).getD (((A 73).getD ((F 67 15) - 1).toInt.toNat 0) - ((A 73).getD ((F 67 15) - 1).toInt.toNat 0) / 1048576 * 1048576).toInt.toNat 0) / 1048576)) + (F 67 14)), .int (((A 73).getD ((F 67 15) - 1).toInt.toNat 0) - ((A 73).getD ((F 67 15) - 1).toInt.toNat 0) / 1048576 * 1048576), .ref 72]) (hp1 := (hz F A L)) rfl ?_
            refine w_as (k := 72) (l := (A 72)) (hp1 := (hz F (uA A 72 ((A 72).set (((A 73).getD ((F 67 15) - 1).toInt.toNat 0) - ((A 73).getD ((F 67 15) - 1).toInt.toNat 0) / 1048576 * 1048576).toInt.toNat ((1048576 * (((A 72).getD (((A 73).getD ((F 67 15) - 1).toInt.toNat 0) - ((A 73).getD ((F 67 15) - 1).toInt.toNat 0) / 1048576 * 1048576).toInt.toNat 0) / 1048576)) + (F 67 14)))) L)) rfl rfl rfl (hz_s72 _) (fun _ => ?_)
            refine w_n 5 (pc1 := 67) (ls1 := [some (.ref 67), some (.int x1), some (.int (((A 73).getD ((F 67 15) - 1).toInt.toNat 0) - ((A 73).getD ((F 67 15) - 1).toInt.toNat 0) / 1048576 * 1048576))]) (st1 := [.int ((F 67 15) - 1), .ref 67]) (hp1 := (hz F (uA A 72 ((A 72).set (((A 73).getD ((F 67 15) - 1).toInt.toNat 0) - ((A 73).getD ((F 67 15) - 1).toInt.toNat 0) / 1048576 * 1048576).toInt.toNat ((1048576 * (((A 72).getD (((A 73).getD ((F 67 15) - 1).toInt.toNat 0) - ((A 73).getD ((F 67 15) - 1).toInt.toNat 0) / 1048576 * 1048576).toInt.toNat 0) / 1048576)) + (F 67 14)))) L)) rfl ?_
            refine w_pf (k := 67) (fs := hz_f67 F) (hp1 := (hz (uF F 67 15 ((F 67 15) - 1)) (uA A 72 ((A 72).set (((A 73).getD ((F 67 15) - 1).toInt.toNat 0) - ((A 73).getD ((F 67 15) - 1).toInt.toNat 0) / 1048576 * 1048576).toInt.toNat ((1048576 * (((A 72).getD (((A 73).getD ((F 67 15) - 1).toInt.toNat 0) - ((A 73).getD ((F 67 15) - 1).toInt.toNat 0) / 1048576 * 1048576).toInt.toNat 0) / 1048576)) + (F 67 14)))) L)) rfl rfl rfl (hz_p67_15 _) ?_
            refine w_n 1 (pc1 := 0) (ls1 := [some (.ref 67), some (.int x1), some (.int (((A 73).getD ((F 67 15) - 1).toInt.toNat 0) - ((A 73).getD ((F 67 15) - 1).toInt.toNat 0) / 1048576 * 1048576))]) (st1 := []) (hp1 := (hz (uF F 67 15 ((F 67 15) - 1)) (uA A 72 ((A 72).set (((A 73).getD ((F 67 15) - 1).toInt.toNat 0) - ((A 73).getD ((F 67 15) - 1).toInt.toNat 0) / 1048576 * 1048576).toInt.toNat ((1048576 * (((A 72).getD (((A 73).getD ((F 67 15) - 1).toInt.toNat 0) - ((A 73).getD ((F 67 15) - 1).toInt.toNat 0) / 1048576 * 1048576).toInt.toNat 0) / 1048576)) + (F 67 14)))) L)) rfl ?_
            subst T
            exact ih _ (by omega) (fun q2 => cvE (funext fun q => funext fun z => if k0 : q = 67 ∧ z = 15 then by obtain ⟨w1, w2⟩ := k0; subst w1; subst w2; exact Eq.trans (b := (km_lands_0 (F 67 14) (A 73) x1 m ((F 67 15) - 1) ((A 72).set (((A 73).getD ((F 67 15) - 1).toInt.toNat 0) - ((A 73).getD ((F 67 15) - 1).toInt.toNat 0) / 1048576 * 1048576).toInt.toNat ((1048576 * (((A 72).getD (((A 73).getD ((F 67 15) - 1).toInt.toNat 0) - ((A 73).getD ((F 67 15) - 1).toInt.toNat 0) / 1048576 * 1048576).toInt.toNat 0) / 1048576)) + (F 67 14)))).1) rfl rfl else by unfold uF; simp only [nb2 k0, cond_false]) (funext fun q => if k0 : q = 72 then by subst k0; exact Eq.trans (b := (km_lands_0 (F 67 14) (A 73) x1 m ((F 67 15) - 1) ((A 72).set (((A 73).getD ((F 67 15) - 1).toInt.toNat 0) - ((A 73).getD ((F 67 15) - 1).toInt.toNat 0) / 1048576 * 1048576).toInt.toNat ((1048576 * (((A 72).getD (((A 73).getD ((F 67 15) - 1).toInt.toNat 0) - ((A 73).getD ((F 67 15) - 1).toInt.toNat 0) / 1048576 * 1048576).toInt.toNat 0) / 1048576)) + (F 67 14)))).2) rfl rfl else by unfold uA; simp only [nb1 k0, cond_false]) rfl (wl_le (Nat.le_succ _) (K q2)))
noncomputable def km_lands (f : Nat) (f67_14 : Int32) (f67_15 : Int32) (a72 : List Int32) (a73 : List Int32) (x1 : Int32) : Int32 × List Int32 := ((km_lands_0 f67_14 a73 x1 f f67_15 a72).1, (km_lands_0 f67_14 a73 x1 f f67_15 a72).2)
theorem t_km_lands {f D : Nat} {F : Nat → Nat → Int32} {A : Nat → List Int32} {L : Nat → List Int64} {Q : Option Value → sm_H → Prop} {x1 : Int32} (K : Q none (hz (uF F 67 15 ((km_lands f (F 67 14) (F 67 15) (A 72) (A 73) x1).1)) (uA A 72 ((km_lands f (F 67 14) (F 67 15) (A 72) (A 73) x1).2)) L)) : wl_M f D 169 [.ref 67, .int x1] (hz F A L) Q := by
  generalize hT : (km_lands f (F 67 14) (F 67 15) (A 72) (A 73) x1) = T at K
  have hE : T = ((km_lands_0 (F 67 14) (A 73) x1 f (F 67 15) (A 72)).1, (km_lands_0 (F 67 14) (A 73) x1 f (F 67 15) (A 72)).2) := hT.symm
  clear hT
  refine w_m (E := mm169) rfl ?_
  show wl_E f f (D - 1) mm169.2.2.2.2.2.2.2.2 0 [some (.ref 67), some (.int x1), none] [] (hz F A L) Q
  refine t_km_lands_0 f _ (Nat.le_refl _) ?_
  intro r1
  show wl_E f _ _ mm169.2.2.2.2.2.2.2.2 73 [some (.ref 67), some (.int x1), r1] [] (hz (uF F 67 15 (km_lands_0 (F 67 14) (A 73) x1 f (F 67 15) (A 72)).1) (uA A 72 (km_lands_0 (F 67 14) (A 73) x1 f (F 67 15) (A 72)).2) L) _
  generalize hG520 : (km_lands_0 (F 67 14) (A 73) x1 f (F 67 15) (A 72)) = G520 at hE ⊢
  subst T
  exact w_r rfl rfl (cvQ rfl rfl rfl K)
