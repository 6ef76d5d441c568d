/-! the lift of law of the reference, printed by genlift.py: 17 -/
noncomputable def km_law_110 (a72 : List Int32)  : Nat → Int32 → List Int32 → List Int32
  | 0, _, a78 => a78
  | m + 1, y3, a78 => (km_law_110 a72 m (y3 + 1) (a78.set y3.toInt.toNat (a72.getD y3.toInt.toNat 0)))
theorem t_km_law_110 {f : Nat} {Q : Option Value → sm_H → Prop} : ∀ (m : Nat) {B D : Nat} {F : Nat → Nat → Int32} {A : Nat → List Int32} {L : Nat → List Int64} {x1 : Int32} {x2 : Int32} {y3 : Int32}, m = ((F 67 14).toInt - y3.toInt).toNat → (∀ q3 : Int32, wl_E f B D mm151.2.2.2.2.2.2.2.2 136 [some (.ref 67), some (.int x1), some (.int x2), some (.int q3)] [] (hz F (uA A 78 (km_law_110 (A 72) m y3 (A 78))) L) Q) → wl_E f B D mm151.2.2.2.2.2.2.2.2 110 [some (.ref 67), some (.int x1), some (.int x2), some (.int y3)] [] (hz F A L) Q := by
  intro m
  induction m with
  | zero =>
    intro B D F A L x1 x2 y3 hm K
    generalize hT : (km_law_110 (A 72) 0 y3 (A 78)) = T at K
    have hE : T = (A 78) := hT.symm
    clear hT
    refine w_n 3 (pc1 := 115) (ls1 := [some (.ref 67), some (.int x1), some (.int x2), some (.int y3)]) (st1 := [.int (F 67 14), .int y3]) (hp1 := (hz F A L)) rfl ?_
    refine w_ge (p3 := 118) rfl rfl (fun hb => ?_) (fun h => False.elim (by have h : y3.toInt < (F 67 14).toInt := h; omega))
    subst T
    exact cvE rfl (funext fun q => if k0 : q = 78 then by subst k0; exact Eq.trans (b := (A 78)) rfl rfl else by unfold uA; simp only [nb1 k0, cond_false]) rfl (K _)
  | succ m ih =>
    intro B D F A L x1 x2 y3 hm K
    generalize hT : (km_law_110 (A 72) (m + 1) y3 (A 78)) = T at K
    have hE : T = (km_law_110 (A 72) m (y3 + 1) ((A 78).set y3.toInt.toNat ((A 72).getD y3.toInt.toNat 0))) := hT.symm
    clear hT
    refine w_n 3 (pc1 := 115) (ls1 := [some (.ref 67), some (.int x1), some (.int x2), some (.int y3)]) (st1 := [.int (F 67 14), .int y3]) (hp1 := (hz F A L)) rfl ?_
    refine w_ge (p3 := 118) rfl rfl (fun h => False.elim (by have h : (F 67 14).toInt ≤ y3.toInt := h; omega)) (fun hb => ?_)
    refine w_n 6 (pc1 := 128) (ls1 := [some (.ref 67), some (.int x1), some (.int x2), some (.int y3)]) (st1 := [.int y3, .ref 72, .int y3, .ref 78]) (hp1 := (hz F A L)) rfl ?_
    refine w_al (k := 72) (l := (A 72)) rfl rfl rfl (fun ab => ?_)
    refine w_as (k := 78) (l := (A 78)) (hp1 := (hz F (uA A 78 ((A 78).set y3.toInt.toNat ((A 72).getD y3.toInt.toNat 0))) L)) rfl rfl rfl (hz_s78 _) (fun ab => ?_)
    refine w_n 2 (pc1 := 110) (ls1 := [some (.ref 67), some (.int x1), some (.int x2), some (.int (y3 + 1))]) (st1 := []) (hp1 := (hz F (uA A 78 ((A 78).set y3.toInt.toNat ((A 72).getD y3.toInt.toNat 0))) L)) rfl ?_
    subst T
    have hb2 := i_up (B := (F 67 14)) hb
    have hb3 : y3.toInt < (F 67 14).toInt := hb
    exact ih (show m = ((F 67 14).toInt - (y3 + 1).toInt).toNat by rw [hb2]; omega) (fun q3 => cvE rfl (funext fun q => if k0 : q = 78 then by subst k0; exact Eq.trans (b := (km_law_110 (A 72) m (y3 + 1) ((A 78).set y3.toInt.toNat ((A 72).getD y3.toInt.toNat 0)))) rfl rfl else by unfold uA; simp only [nb1 k0, cond_false]) rfl (K q3))
noncomputable def km_law_138 (a74 : List Int32) (a75 : List Int32) (a76 : List Int32) (a77 : List Int32)  : Nat → Int32 → List Int32 → List Int32 → List Int32 → List Int32 → List Int32 × List Int32 × List Int32 × List Int32
  | 0, _, a79, a80, a81, a82 => (a79, a80, a81, a82)
  | m + 1, y3, a79, a80, a81, a82 => (km_law_138 a74 a75 a76 a77 m (y3 + 1) (a79.set y3.toInt.toNat (a74.getD y3.toInt.toNat 0)) (a80.set y3.toInt.toNat (a75.getD y3.toInt.toNat 0)) (a81.set y3.toInt.toNat (a76.getD y3.toInt.toNat 0)) (a82.set y3.toInt.toNat (a77.getD y3.toInt.toNat 0)))
theorem t_km_law_138 {f : Nat} {Q : Option Value → sm_H → Prop} : ∀ (m : Nat) {B D : Nat} {F : Nat → Nat → Int32} {A : Nat → List Int32} {L : Nat → List Int64} {x1 : Int32} {x2 : Int32} {y3 : Int32}, m = ((F 67 16).toInt - y3.toInt).toNat → (∀ q3 : Int32, wl_E f B D mm151.2.2.2.2.2.2.2.2 200 [some (.ref 67), some (.int x1), some (.int x2), some (.int q3)] [] (hz F (uA (uA (uA (uA A 79 ((km_law_138 (A 74) (A 75) (A 76) (A 77) m y3 (A 79) (A 80) (A 81) (A 82)).1)) 80 ((km_law_138 (A 74) (A 75) (A 76) (A 77) m y3 (A 79) (A 80) (A 81) (A 82)).2.1)) 81 ((km_law_138 (A 74) (A 75) (A 76) (A 77) m y3 (A 79) (A 80) (A 81) (A 82)).2.2.1)) 82 ((km_law_138 (A 74) (A 75) (A 76) (A 77) m y3 (A 79) (A 80) (A 81) (A 82)).2.2.2)) L) Q) → wl_E f B D mm151.2.2.2.2.2.2.2.2 138 [some (.ref 67), some (.int x1), some (.int x2), some (.int y3)] [] (hz F A L) Q := by
  intro m
  induction m with
  | zero =>
    intro B D F A L x1 x2 y3 hm K
    generalize hT : (km_law_138 (A 74) (A 75) (A 76) (A 77) 0 y3 (A 79) (A 80) (A 81) (A 82)) = T at K
    have hE : T = ((A 79), (A 80), (A 81), (A 82)) := hT.symm
    clear hT
    refine w_n 3 (pc1 := 143) (ls1 := [some (.ref 67), some (.int x1), some (.int x2), some (.int y3)]) (st1 := [.int (F 67 16), .int y3]) (hp1 := (hz F A L)) rfl ?_
    refine w_ge (p3 := 146) rfl rfl (fun hb => ?_) (fun h => False.elim (by have h : y3.toInt < (F 67 16).toInt := h; omega))
    subst T
    exact cvE rfl (funext fun q => if k0 : q = 79 then by subst k0; exact Eq.trans (b := (A 79)) rfl rfl else if k1 : q = 80 then by subst k1; exact Eq.trans (b := (A 80)) rfl rfl else if k2 : q = 81 then by subst k2; exact Eq.trans (b := (A 81)) rfl rfl else if k3 : q = 82 then by subst k3; exact Eq.trans (b := (A 82)) rfl rfl else by unfold uA; simp only [nb1 k0, nb1 k1, nb1 k2, nb1 k3, cond_false]) rfl (K _)
  | succ m ih =>
    intro B D F A L x1 x2 y3 hm K
    generalize hT : (km_law_138 (A 74) (A 75) (A 76) (A 77) (m + 1) y3 (A 79) (A 80) (A 81) (A 82)) = T at K
    have hE : T = (km_law_138 (A 74) (A 75) (A 76) (A 77) m (y3 + 1) ((A 79).set y3.toInt.toNat ((A 74).getD y3.toInt.toNat 0)) ((A 80).set y3.toInt.toNat ((A 75).getD y3.toInt.toNat 0)) ((A 81).set y3.toInt.toNat ((A 76).getD y3.toInt.toNat 0)) ((A 82).set y3.toInt.toNat ((A 77).getD y3.toInt.toNat 0))) := hT.symm
    clear hT
    refine w_n 3 (pc1 := 143) (ls1 := [some (.ref 67), some (.int x1), some (.int x2), some (.int y3)]) (st1 := [.int (F 67 16), .int y3]) (hp1 := (hz F A L)) rfl ?_
    refine w_ge (p3 := 146) rfl rfl (fun h => False.elim (by have h : (F 67 16).toInt ≤ y3.toInt := h; omega)) (fun hb => ?_)
    refine w_n 6 (pc1 := 156) (ls1 := [some (.ref 67), some (.int x1), some (.int x2), some (.int y3)]) (st1 := [.int y3, .ref 74, .int y3, .ref 79]) (hp1 := (hz F A L)) rfl ?_
    refine w_al (k := 74) (l := (A 74)) rfl rfl rfl (fun ab => ?_)
    refine w_as (k := 79) (l := (A 79)) (hp1 := (hz F (uA A 79 ((A 79).set y3.toInt.toNat ((A 74).getD y3.toInt.toNat 0))) L)) rfl rfl rfl (hz_s79 _) (fun ab => ?_)
    refine w_n 6 (pc1 := 168) (ls1 := [some (.ref 67), some (.int x1), some (.int x2), some (.int y3)]) (st1 := [.int y3, .ref 75, .int y3, .ref 80]) (hp1 := (hz F (uA A 79 ((A 79).set y3.toInt.toNat ((A 74).getD y3.toInt.toNat 0))) L)) rfl ?_
    refine w_al (k := 75) (l := (A 75)) rfl rfl rfl (fun ab => ?_)
    refine w_as (k := 80) (l := (A 80)) (hp1 := (hz F (uA (uA A 79 ((A 79).set y3.toInt.toNat ((A 74).getD y3.toInt.toNat 0))) 80 ((A 80).set y3.toInt.toNat ((A 75).getD y3.toInt.toNat 0))) L)) rfl rfl rfl (hz_s80 _) (fun ab => ?_)
    refine w_n 6 (pc1 := 180) (ls1 := [some (.ref 67), some (.int x1), some (.int x2), some (.int y3)]) (st1 := [.int y3, .ref 76, .int y3, .ref 81]) (hp1 := (hz F (uA (uA A 79 ((A 79).set y3.toInt.toNat ((A 74).getD y3.toInt.toNat 0))) 80 ((A 80).set y3.toInt.toNat ((A 75).getD y3.toInt.toNat 0))) L)) rfl ?_
    refine w_al (k := 76) (l := (A 76)) rfl rfl rfl (fun ab => ?_)
    refine w_as (k := 81) (l := (A 81)) (hp1 := (hz F (uA (uA (uA A 79 ((A 79).set y3.toInt.toNat ((A 74).getD y3.toInt.toNat 0))) 80 ((A 80).set y3.toInt.toNat ((A 75).getD y3.toInt.toNat 0))) 81 ((A 81).set y3.toInt.toNat ((A 76).getD y3.toInt.toNat 0))) L)) rfl rfl rfl (hz_s81 _) (fun ab => ?_)
    refine w_n 6 (pc1 := 192) (ls1 := [some (.ref 67), some (.int x1), some (.int x2), some (.int y3)]) (st1 := [.int y3, .ref 77, .int y3, .ref 82]) (hp1 := (hz F (uA (uA (uA A 79 ((A 79).set y3.toInt.toNat ((A 74).getD y3.toInt.toNat 0))) 80 ((A 80).set y3.toInt.toNat ((A 75).getD y3.toInt.toNat 0))) 81 ((A 81).set y3.toInt.toNat ((A 76).getD y3.toInt.toNat 0))) L)) rfl ?_
    refine w_al (k := 77) (l := (A 77)) rfl rfl rfl (fun ab => ?_)
    refine w_as (k := 82) (l := (A 82)) (hp1 := (hz F (uA (uA (uA (uA A 79 ((A 79).set y3.toInt.toNat ((A 74).getD y3.toInt.toNat 0))) 80 ((A 80).set y3.toInt.toNat ((A 75).getD y3.toInt.toNat 0))) 81 ((A 81).set y3.toInt.toNat ((A 76).getD y3.toInt.toNat 0))) 82 ((A 82).set y3.toInt.toNat ((A 77).getD y3.toInt.toNat 0))) L)) rfl rfl rfl (hz_s82 _) (fun ab => ?_)
    refine w_n 2 (pc1 := 138) (ls1 := [some (.ref 67), some (.int x1), some (.int x2), some (.int (y3 + 1))]) (st1 := []) (hp1 := (hz F (uA (uA (uA (uA A 79 ((A 79).set y3.toInt.toNat ((A 74).getD y3.toInt.toNat 0))) 80 ((A 80).set y3.toInt.toNat ((A 75).getD y3.toInt.toNat 0))) 81 ((A 81).set y3.toInt.toNat ((A 76).getD y3.toInt.toNat 0))) 82 ((A 82).set y3.toInt.toNat ((A 77).getD y3.toInt.toNat 0))) L)) rfl ?_
    subst T
    have hb2 := i_up (B := (F 67 16)) hb
    have hb3 : y3.toInt < (F 67 16).toInt := hb
    exact ih (show m = ((F 67 16).toInt - (y3 + 1).toInt).toNat by rw [hb2]; omega) (fun q3 => cvE rfl (funext fun q => if k0 : q = 79 then by subst k0; exact Eq.trans (b := (km_law_138 (A 74) (A 75) (A 76) (A 77) m (y3 + 1) ((A 79).set y3.toInt.toNat ((A 74).getD y3.toInt.toNat 0)) ((A 80).set y3.toInt.toNat ((A 75).getD y3.toInt.toNat 0)) ((A 81).set y3.toInt.toNat ((A 76).getD y3.toInt.toNat 0)) ((A 82).set y3.toInt.toNat ((A 77).getD y3.toInt.toNat 0))).1) rfl rfl else if k1 : q = 80 then by subst k1; exact Eq.trans (b := (km_law_138 (A 74) (A 75) (A 76) (A 77) m (y3 + 1) ((A 79).set y3.toInt.toNat ((A 74).getD y3.toInt.toNat 0)) ((A 80).set y3.toInt.toNat ((A 75).getD y3.toInt.toNat 0)) ((A 81).set y3.toInt.toNat ((A 76).getD y3.toInt.toNat 0)) ((A 82).set y3.toInt.toNat ((A 77).getD y3.toInt.toNat 0))).2.1) rfl rfl else if k2 : q = 81 then by subst k2; exact Eq.trans (b := (km_law_138 (A 74) (A 75) (A 76) (A 77) m (y3 + 1) ((A 79).set y3.toInt.toNat ((A 74).getD y3.toInt.toNat 0)) ((A 80).set y3.toInt.toNat ((A 75).getD y3.toInt.toNat 0)) ((A 81).set y3.toInt.toNat ((A 76).getD y3.toInt.toNat 0)) ((A 82).set y3.toInt.toNat ((A 77).getD y3.toInt.toNat 0))).2.2.1) rfl rfl else if k3 : q = 82 then by subst k3; exact Eq.trans (b := (km_law_138 (A 74) (A 75) (A 76) (A 77) m (y3 + 1) ((A 79).set y3.toInt.toNat ((A 74).getD y3.toInt.toNat 0)) ((A 80).set y3.toInt.toNat ((A 75).getD y3.toInt.toNat 0)) ((A 81).set y3.toInt.toNat ((A 76).getD y3.toInt.toNat 0)) ((A 82).set y3.toInt.toNat ((A 77).getD y3.toInt.toNat 0))).2.2.2) rfl rfl else by unfold uA; simp only [nb1 k0, nb1 k1, nb1 k2, nb1 k3, cond_false]) rfl (K q3))
noncomputable def km_law (f : Nat) (f67_8 : Int32) (f67_9 : Int32) (f67_10 : Int32) (f67_11 : Int32) (f67_12 : Int32) (f67_13 : Int32) (f67_14 : Int32) (f67_15 : Int32) (f67_16 : Int32) (f67_17 : Int32) (a71 : List Int32) (a72 : List Int32) (a73 : List Int32) (a74 : List Int32) (a75 : List Int32) (a76 : List Int32) (a77 : List Int32) (a78 : List Int32) (a79 : List Int32) (a80 : List Int32) (a81 : List Int32) (a82 : List Int32) (x1 : Int32) : Int32 × Int32 × Int32 × Int32 × Int32 × Int32 × Int32 × Int32 × Int32 × Int32 × Int32 × List Int32 × List Int32 × List Int32 × List Int32 × List Int32 × List Int32 × List Int32 × List Int32 × List Int32 × List Int32 × List Int32 := (lt (km_in x1 1 240) (fun g468 => (if g468 = 0 then ((-1), f67_8, f67_9, f67_10, f67_11, f67_12, f67_13, f67_14, f67_15, f67_16, f67_17, a72, a73, a74, a75, a76, a77, a78, a79, a80, a81, a82) else (if f67_8.toInt < x1.toInt then ((-1), f67_8, f67_9, f67_10, f67_11, f67_12, f67_13, f67_14, f67_15, f67_16, f67_17, a72, a73, a74, a75, a76, a77, a78, a79, a80, a81, a82) else (lt (km_readsRule f 0 x1 f67_11 f67_12 f67_13 0 f67_15 0 a71 a72 a73 a74 a75 a76 a77) (fun g538 => (lt (km_law_46 f x1 a71 f g538.1 g538.2.1 g538.2.2.1 g538.2.2.2.1 g538.2.2.2.2.1 g538.2.2.2.2.2.1 g538.2.2.2.2.2.2.1 g538.2.2.2.2.2.2.2.1 g538.2.2.2.2.2.2.2.2.1 g538.2.2.2.2.2.2.2.2.2.1 g538.2.2.2.2.2.2.2.2.2.2.1 g538.2.2.2.2.2.2.2.2.2.2.2.1 g538.2.2.2.2.2.2.2.2.2.2.2.2.1 g538.2.2.2.2.2.2.2.2.2.2.2.2.2) (fun g543 => (if g543.1 = 0 then (g543.2.2.1, 0, g543.2.1, x1, g543.2.2.1, g543.2.2.2.1, g543.2.2.2.2.1, g543.2.2.2.2.2.1, g543.2.2.2.2.2.2.1, g543.2.2.2.2.2.2.2.1, f67_17, g543.2.2.2.2.2.2.2.2.1, g543.2.2.2.2.2.2.2.2.2.1, g543.2.2.2.2.2.2.2.2.2.2.1, g543.2.2.2.2.2.2.2.2.2.2.2.1, g543.2.2.2.2.2.2.2.2.2.2.2.2.1, g543.2.2.2.2.2.2.2.2.2.2.2.2.2, a78, a79, a80, a81, a82) else (lt (km_law_110 g543.2.2.2.2.2.2.2.2.1 g543.2.2.2.2.2.1.toInt.toNat 0 a78) (fun g544 => (lt (km_law_138 g543.2.2.2.2.2.2.2.2.2.2.1 g543.2.2.2.2.2.2.2.2.2.2.2.1 g543.2.2.2.2.2.2.2.2.2.2.2.2.1 g543.2.2.2.2.2.2.2.2.2.2.2.2.2 g543.2.2.2.2.2.2.2.1.toInt.toNat 0 a79 a80 a81 a82) (fun g545 => (g543.2.2.2.2.2.2.2.1, 0, g543.2.1, x1, g543.2.2.1, g543.2.2.2.1, g543.2.2.2.2.1, g543.2.2.2.2.2.1, g543.2.2.2.2.2.2.1, g543.2.2.2.2.2.2.2.1, g543.2.2.2.2.2.2.2.1, g543.2.2.2.2.2.2.2.2.1, g543.2.2.2.2.2.2.2.2.2.1, g543.2.2.2.2.2.2.2.2.2.2.1, g543.2.2.2.2.2.2.2.2.2.2.2.1, g543.2.2.2.2.2.2.2.2.2.2.2.2.1, g543.2.2.2.2.2.2.2.2.2.2.2.2.2, g544, g545.1, g545.2.1, g545.2.2.1, g545.2.2.2))))))))))))))
