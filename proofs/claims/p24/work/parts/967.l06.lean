/-! lifts, printed by genlift.py: 6 -/
noncomputable def kv_fewestToWin_47 (f3_0 : Int32) (f3_1 : Int32) (a6 : List Int32) (a31 : List Int32) (a41 : List Int32) (x1 : Int32) : Nat → Int32 → Int32 → Int32 → List Int32 → Int32 × List Int32
  | 0, _, y3, _, a42 => (y3, a42)
  | m + 1, y2, y3, y4, a42 => (if (y4 &&& (f3_1 ^^^ (-1))) = 0 then (if (kji_bitCount y4).toInt < y2.toInt then (if (kv_winsWith f3_0 a6 a31 a41 a42 x1 y4).1 = 0 then (kv_fewestToWin_47 f3_0 f3_1 a6 a31 a41 x1 m y2 y3 (y4 + 1) (kv_winsWith f3_0 a6 a31 a41 a42 x1 y4).2) else (kv_fewestToWin_47 f3_0 f3_1 a6 a31 a41 x1 m (kji_bitCount y4) y4 (y4 + 1) (kv_winsWith f3_0 a6 a31 a41 a42 x1 y4).2)) else (kv_fewestToWin_47 f3_0 f3_1 a6 a31 a41 x1 m y2 y3 (y4 + 1) a42)) else (kv_fewestToWin_47 f3_0 f3_1 a6 a31 a41 x1 m y2 y3 (y4 + 1) a42))
theorem t_kv_fewestToWin_47 {f : Nat} {Q : Option Value → sm_H → Prop} : ∀ (m : Nat) {B D : Nat} {F : Nat → Nat → Int32} {A : Nat → List Int32} {L : Nat → List Int64} {x1 : Int32} {y2 : Int32} {y3 : Int32} {y4 : Int32} {o5 : Option Value}, m = ((F 3 1).toInt + 1 - y4.toInt).toNat → (_ : (F 3 1).toInt < 2147483647) → (∀ q2 : Int32, ∀ q4 : Int32, ∀ q5 : Option Value, wl_E f B D mm112.2.2.2.2.2.2.2.2 109 [some (.ref 30), some (.int x1), some (.int q2), some (.int ((kv_fewestToWin_47 (F 3 0) (F 3 1) (A 6) (A 31) (A 41) x1 m y2 y3 y4 (A 42)).1)), some (.int q4), q5] [] (hz F (uA A 42 ((kv_fewestToWin_47 (F 3 0) (F 3 1) (A 6) (A 31) (A 41) x1 m y2 y3 y4 (A 42)).2)) L) Q) → wl_E f B D mm112.2.2.2.2.2.2.2.2 47 [some (.ref 30), some (.int x1), some (.int y2), some (.int y3), some (.int y4), o5] [] (hz F A L) Q := by
  intro m
  induction m with
  | zero =>
    intro B D F A L x1 y2 y3 y4 o5 hm hh0 K
    generalize hT : (kv_fewestToWin_47 (F 3 0) (F 3 1) (A 6) (A 31) (A 41) x1 0 y2 y3 y4 (A 42)) = T at K
    have hE : T = (y3, (A 42)) := hT.symm
    clear hT
    refine w_n 4 (pc1 := 56) (ls1 := [some (.ref 30), some (.int x1), some (.int y2), some (.int y3), some (.int y4), o5]) (st1 := [.int (F 3 1), .int y4]) (hp1 := (hz F A L)) rfl ?_
    refine w_gt (p3 := 59) rfl rfl (fun hb => ?_) (fun h => False.elim (by have h : y4.toInt ≤ (F 3 1).toInt := h; omega))
    subst T
    exact cvE rfl (funext fun q => if k0 : q = 42 then by subst k0; exact Eq.trans (b := (A 42)) rfl rfl else by unfold uA; simp only [nb1 k0, cond_false]) rfl (K _ _ _)
  | succ m ih =>
    intro B D F A L x1 y2 y3 y4 o5 hm hh0 K
    generalize hT : (kv_fewestToWin_47 (F 3 0) (F 3 1) (A 6) (A 31) (A 41) x1 (m + 1) y2 y3 y4 (A 42)) = T at K
    have hE : T = (if (y4 &&& ((F 3 1) ^^^ (-1))) = 0 then (if (kji_bitCount y4).toInt < y2.toInt then (if (kv_winsWith (F 3 0) (A 6) (A 31) (A 41) (A 42) x1 y4).1 = 0 then (kv_fewestToWin_47 (F 3 0) (F 3 1) (A 6) (A 31) (A 41) x1 m y2 y3 (y4 + 1) (kv_winsWith (F 3 0) (A 6) (A 31) (A 41) (A 42) x1 y4).2) else (kv_fewestToWin_47 (F 3 0) (F 3 1) (A 6) (A 31) (A 41) x1 m (kji_bitCount y4) y4 (y4 + 1) (kv_winsWith (F 3 0) (A 6) (A 31) (A 41) (A 42) x1 y4).2)) else (kv_fewestToWin_47 (F 3 0) (F 3 1) (A 6) (A 31) (A 41) x1 m y2 y3 (y4 + 1) (A 42))) else (kv_fewestToWin_47 (F 3 0) (F 3 1) (A 6) (A 31) (A 41) x1 m y2 y3 (y4 + 1) (A 42))) := hT.symm
    clear hT
    refine w_n 4 (pc1 := 56) (ls1 := [some (.ref 30), some (.int x1), some (.int y2), some (.int y3), some (.int y4), o5]) (st1 := [.int (F 3 1), .int y4]) (hp1 := (hz F A L)) rfl ?_
    refine w_gt (p3 := 59) rfl rfl (fun h => False.elim (by have h : (F 3 1).toInt < y4.toInt := h; omega)) (fun hb => ?_)
    refine w_n 1 (pc1 := 61) (ls1 := [some (.ref 30), some (.int x1), some (.int y2), some (.int y3), some (.int y4), o5]) (st1 := [.int y4]) (hp1 := (hz F A L)) rfl ?_
    refine w_c rfl rfl (t_kji_bitCount ?_)
    show wl_E f _ _ mm112.2.2.2.2.2.2.2.2 64 [some (.ref 30), some (.int x1), some (.int y2), some (.int y3), some (.int y4), o5] [.int (kji_bitCount y4)] (hz F A L) _
    generalize hG173 : (kji_bitCount y4) = G173 at hE ⊢
    refine w_n 8 (pc1 := 78) (ls1 := [some (.ref 30), some (.int x1), some (.int y2), some (.int y3), some (.int y4), some (.int G173)]) (st1 := [.int (y4 &&& ((F 3 1) ^^^ (-1)))]) (hp1 := (hz F A L)) rfl ?_
    refine w_zne (p3 := 81) rfl rfl (fun h => ?_) (fun h => ?_)
    · have h1 : ¬ (y4 &&& ((F 3 1) ^^^ (-1))) = 0 := h
      rw [if_neg h1] at hE
      refine w_n 2 (pc1 := 47) (ls1 := [some (.ref 30), some (.int x1), some (.int y2), some (.int y3), some (.int (y4 + 1)), some (.int G173)]) (st1 := []) (hp1 := (hz F A L)) rfl ?_
      subst T
      have hb2 := i_up2 (B := (F 3 1)) hb (by first | decide | exact hB | assumption)
      have hb3 : y4.toInt ≤ (F 3 1).toInt := hb
      exact ih (show m = ((F 3 1).toInt + 1 - (y4 + 1).toInt).toNat by rw [hb2]; omega) hh0 (fun q2 q4 q5 => cvE rfl (funext fun q => if k0 : q = 42 then by subst k0; exact Eq.trans (b := (kv_fewestToWin_47 (F 3 0) (F 3 1) (A 6) (A 31) (A 41) x1 m y2 y3 (y4 + 1) (A 42)).2) rfl rfl else by unfold uA; simp only [nb1 k0, cond_false]) rfl (K q2 q4 q5))
    · have h1 : (y4 &&& ((F 3 1) ^^^ (-1))) = 0 := h
      rw [if_pos h1] at hE
      refine w_n 2 (pc1 := 84) (ls1 := [some (.ref 30), some (.int x1), some (.int y2), some (.int y3), some (.int y4), some (.int G173)]) (st1 := [.int y2, .int G173]) (hp1 := (hz F A L)) rfl ?_
      refine w_ge (p3 := 87) rfl rfl (fun h => ?_) (fun h => ?_)
      · have h2 : y2.toInt ≤ G173.toInt := h
        rw [if_neg (Int.not_lt.mpr h2)] at hE
        refine w_n 2 (pc1 := 47) (ls1 := [some (.ref 30), some (.int x1), some (.int y2), some (.int y3), some (.int (y4 + 1)), some (.int G173)]) (st1 := []) (hp1 := (hz F A L)) rfl ?_
        subst T
        have hb2 := i_up2 (B := (F 3 1)) hb (by first | decide | exact hB | assumption)
        have hb3 : y4.toInt ≤ (F 3 1).toInt := hb
        exact ih (show m = ((F 3 1).toInt + 1 - (y4 + 1).toInt).toNat by rw [hb2]; omega) hh0 (fun q2 q4 q5 => cvE rfl (funext fun q => if k0 : q = 42 then by subst k0; exact Eq.trans (b := (kv_fewestToWin_47 (F 3 0) (F 3 1) (A 6) (A 31) (A 41) x1 m y2 y3 (y4 + 1) (A 42)).2) rfl rfl else by unfold uA; simp only [nb1 k0, cond_false]) rfl (K q2 q4 q5))
      · have h2 : G173.toInt < y2.toInt := h
        rw [if_pos h2] at hE
        refine w_n 3 (pc1 := 91) (ls1 := [some (.ref 30), some (.int x1), some (.int y2), some (.int y3), some (.int y4), some (.int G173)]) (st1 := [.int y4, .int x1, .ref 30]) (hp1 := (hz F A L)) rfl ?_
        refine w_c rfl rfl (t_kv_winsWith ?_)
        show wl_E f _ _ mm112.2.2.2.2.2.2.2.2 94 [some (.ref 30), some (.int x1), some (.int y2), some (.int y3), some (.int y4), some (.int G173)] [.int (kv_winsWith (F 3 0) (A 6) (A 31) (A 41) (A 42) x1 y4).1] (hz F (uA A 42 (kv_winsWith (F 3 0) (A 6) (A 31) (A 41) (A 42) x1 y4).2) L) _
        generalize hG175 : (kv_winsWith (F 3 0) (A 6) (A 31) (A 41) (A 42) x1 y4) = G175 at hE ⊢
        refine w_zeq (p3 := 97) rfl rfl (fun h => ?_) (fun h => ?_)
        · have h3 : G175.1 = 0 := h
          rw [if_pos h3] at hE
          refine w_n 2 (pc1 := 47) (ls1 := [some (.ref 30), some (.int x1), some (.int y2), some (.int y3), some (.int (y4 + 1)), some (.int G173)]) (st1 := []) (hp1 := (hz F (uA A 42 G175.2) L)) rfl ?_
          subst T
          have hb2 := i_up2 (B := (F 3 1)) hb (by first | decide | exact hB | assumption)
          have hb3 : y4.toInt ≤ (F 3 1).toInt := hb
          exact ih (show m = ((F 3 1).toInt + 1 - (y4 + 1).toInt).toNat by rw [hb2]; omega) hh0 (fun q2 q4 q5 => cvE rfl (funext fun q => if k0 : q = 42 then by subst k0; exact Eq.trans (b := (kv_fewestToWin_47 (F 3 0) (F 3 1) (A 6) (A 31) (A 41) x1 m y2 y3 (y4 + 1) G175.2).2) rfl rfl else by unfold uA; simp only [nb1 k0, cond_false]) rfl (K q2 q4 q5))
        · have h3 : ¬ G175.1 = 0 := h
          rw [if_neg h3] at hE
          refine w_n 6 (pc1 := 47) (ls1 := [some (.ref 30), some (.int x1), some (.int G173), some (.int y4), some (.int (y4 + 1)), some (.int G173)]) (st1 := []) (hp1 := (hz F (uA A 42 G175.2) L)) rfl ?_
          subst T
          have hb2 := i_up2 (B := (F 3 1)) hb (by first | decide | exact hB | assumption)
          have hb3 : y4.toInt ≤ (F 3 1).toInt := hb
          exact ih (show m = ((F 3 1).toInt + 1 - (y4 + 1).toInt).toNat by rw [hb2]; omega) hh0 (fun q2 q4 q5 => cvE rfl (funext fun q => if k0 : q = 42 then by subst k0; exact Eq.trans (b := (kv_fewestToWin_47 (F 3 0) (F 3 1) (A 6) (A 31) (A 41) x1 m G173 y4 (y4 + 1) G175.2).2) rfl rfl else by unfold uA; simp only [nb1 k0, cond_false]) rfl (K q2 q4 q5))
noncomputable def kv_fewestToWin (f3_0 : Int32) (f3_1 : Int32) (a6 : List Int32) (a31 : List Int32) (a35 : List Int32) (a41 : List Int32) (a42 : List Int32) (l11 : List Int64) (x1 : Int32) : Int32 × List Int32 × List Int32 × List Int32 × List Int32 := ((kv_fewestToWin_47 f3_0 f3_1 a6 (kv_countFirsts f3_0 f3_1 a6 a31 a35 l11).1 (kv_fewestToWin_6 f3_0 l11 12 0 a41) x1 (f3_1.toInt + 1).toNat 13 (-1) 0 a42).1, (kv_countFirsts f3_0 f3_1 a6 a31 a35 l11).1, (kv_countFirsts f3_0 f3_1 a6 a31 a35 l11).2, (kv_fewestToWin_6 f3_0 l11 12 0 a41), (kv_fewestToWin_47 f3_0 f3_1 a6 (kv_countFirsts f3_0 f3_1 a6 a31 a35 l11).1 (kv_fewestToWin_6 f3_0 l11 12 0 a41) x1 (f3_1.toInt + 1).toNat 13 (-1) 0 a42).2)
theorem t_kv_fewestToWin {f D : Nat} {F : Nat → Nat → Int32} {A : Nat → List Int32} {L : Nat → List Int64} {Q : Option Value → sm_H → Prop} {x1 : Int32} (hh0 : (F 3 1).toInt < 2147483647) (K : Q (some (.int ((kv_fewestToWin (F 3 0) (F 3 1) (A 6) (A 31) (A 35) (A 41) (A 42) (L 11) x1).1))) (hz F (uA (uA (uA (uA A 31 ((kv_fewestToWin (F 3 0) (F 3 1) (A 6) (A 31) (A 35) (A 41) (A 42) (L 11) x1).2.1)) 35 ((kv_fewestToWin (F 3 0) (F 3 1) (A 6) (A 31) (A 35) (A 41) (A 42) (L 11) x1).2.2.1)) 41 ((kv_fewestToWin (F 3 0) (F 3 1) (A 6) (A 31) (A 35) (A 41) (A 42) (L 11) x1).2.2.2.1)) 42 ((kv_fewestToWin (F 3 0) (F 3 1) (A 6) (A 31) (A 35) (A 41) (A 42) (L 11) x1).2.2.2.2)) L)) : wl_M f D 112 [.ref 30, .int x1] (hz F A L) Q := by
  generalize hT : (kv_fewestToWin (F 3 0) (F 3 1) (A 6) (A 31) (A 35) (A 41) (A 42) (L 11) x1) = T at K
  have hE : T = ((kv_fewestToWin_47 (F 3 0) (F 3 1) (A 6) (kv_countFirsts (F 3 0) (F 3 1) (A 6) (A 31) (A 35) (L 11)).1 (kv_fewestToWin_6 (F 3 0) (L 11) 12 0 (A 41)) x1 ((F 3 1).toInt + 1).toNat 13 (-1) 0 (A 42)).1, (kv_countFirsts (F 3 0) (F 3 1) (A 6) (A 31) (A 35) (L 11)).1, (kv_countFirsts (F 3 0) (F 3 1) (A 6) (A 31) (A 35) (L 11)).2, (kv_fewestToWin_6 (F 3 0) (L 11) 12 0 (A 41)), (kv_fewestToWin_47 (F 3 0) (F 3 1) (A 6) (kv_countFirsts (F 3 0) (F 3 1) (A 6) (A 31) (A 35) (L 11)).1 (kv_fewestToWin_6 (F 3 0) (L 11) 12 0 (A 41)) x1 ((F 3 1).toInt + 1).toNat 13 (-1) 0 (A 42)).2) := hT.symm
  clear hT
  refine w_m (E := mm112) rfl ?_
  show wl_E f f (D - 1) mm112.2.2.2.2.2.2.2.2 0 [some (.ref 30), some (.int x1), none, none, none, none] [] (hz F A L) Q
  refine w_n 1 (pc1 := 1) (ls1 := [some (.ref 30), some (.int x1), none, none, none, none]) (st1 := [.ref 30]) (hp1 := (hz F A L)) rfl ?_
  refine w_c rfl rfl (t_kv_countFirsts ?_)
  show wl_E f _ _ mm112.2.2.2.2.2.2.2.2 4 [some (.ref 30), some (.int x1), none, none, none, none] [] (hz F (uA (uA A 31 (kv_countFirsts (F 3 0) (F 3 1) (A 6) (A 31) (A 35) (L 11)).1) 35 (kv_countFirsts (F 3 0) (F 3 1) (A 6) (A 31) (A 35) (L 11)).2) L) _
  generalize hG169 : (kv_countFirsts (F 3 0) (F 3 1) (A 6) (A 31) (A 35) (L 11)) = G169 at hE ⊢
  refine w_n 2 (pc1 := 6) (ls1 := [some (.ref 30), some (.int x1), some (.int 0), none, none, none]) (st1 := []) (hp1 := (hz F (uA (uA A 31 G169.1) 35 G169.2) L)) rfl ?_
  refine t_kv_fewestToWin_6 12 (show (12 : Nat) = (12 - (0 : Int32).toInt).toNat by have e0 : (0 : Int32).toInt = 0 := rfl; first | rfl | omega) ?_
  intro r1
  show wl_E f _ _ mm112.2.2.2.2.2.2.2.2 39 [some (.ref 30), some (.int x1), some (.int r1), none, none, none] [] (hz F (uA (uA (uA A 31 G169.1) 35 G169.2) 41 (kv_fewestToWin_6 (F 3 0) (L 11) 12 0 (A 41))) L) _
  generalize hG172 : (kv_fewestToWin_6 (F 3 0) (L 11) 12 0 (A 41)) = G172 at hE ⊢
  refine w_n 6 (pc1 := 47) (ls1 := [some (.ref 30), some (.int x1), some (.int 13), some (.int (-1)), some (.int 0), none]) (st1 := []) (hp1 := (hz F (uA (uA (uA A 31 G169.1) 35 G169.2) 41 G172) L)) rfl ?_
  refine t_kv_fewestToWin_47 (((F 3 1).toInt + 1).toNat) (show ((F 3 1).toInt + 1).toNat = ((F 3 1).toInt + 1 - (0 : Int32).toInt).toNat by have e0 : (0 : Int32).toInt = 0 := rfl; first | rfl | omega) hh0 ?_
  intro r2 r3 r4
  show wl_E f _ _ mm112.2.2.2.2.2.2.2.2 109 [some (.ref 30), some (.int x1), some (.int r2), some (.int (kv_fewestToWin_47 (F 3 0) (F 3 1) (A 6) G169.1 G172 x1 ((F 3 1).toInt + 1).toNat 13 (-1) 0 (A 42)).1), some (.int r3), r4] [] (hz F (uA (uA (uA (uA A 31 G169.1) 35 G169.2) 41 G172) 42 (kv_fewestToWin_47 (F 3 0) (F 3 1) (A 6) G169.1 G172 x1 ((F 3 1).toInt + 1).toNat 13 (-1) 0 (A 42)).2) L) _
  generalize hG176 : (kv_fewestToWin_47 (F 3 0) (F 3 1) (A 6) G169.1 G172 x1 ((F 3 1).toInt + 1).toNat 13 (-1) 0 (A 42)) = G176 at hE ⊢
  refine w_n 1 (pc1 := 110) (ls1 := [some (.ref 30), some (.int x1), some (.int r2), some (.int G176.1), some (.int r3), r4]) (st1 := [.int G176.1]) (hp1 := (hz F (uA (uA (uA (uA A 31 G169.1) 35 G169.2) 41 G172) 42 G176.2) L)) rfl ?_
  subst T
  exact w_ri rfl (cvQ rfl rfl rfl K)
noncomputable def kc_wonOver (f3_0 : Int32) (f3_1 : Int32) (a6 : List Int32) (a31 : List Int32) (a35 : List Int32) (a41 : List Int32) (a42 : List Int32) (l11 : List Int64) (x1 : Int32) (x2 : Int32) : Int32 × List Int32 × List Int32 × List Int32 × List Int32 := (if (kt_isMeasure f3_0 x1) = 0 then ((-1), a31, a35, a41, a42) else (if (kc_within x2 0 1) = 0 then ((-1), a31, a35, a41, a42) else (if (kv_fewestToWin f3_0 f3_1 a6 a31 a35 a41 a42 l11 x1).1 = (-1) then ((-2), (kv_fewestToWin f3_0 f3_1 a6 a31 a35 a41 a42 l11 x1).2.1, (kv_fewestToWin f3_0 f3_1 a6 a31 a35 a41 a42 l11 x1).2.2.1, (kv_fewestToWin f3_0 f3_1 a6 a31 a35 a41 a42 l11 x1).2.2.2.1, (kv_fewestToWin f3_0 f3_1 a6 a31 a35 a41 a42 l11 x1).2.2.2.2) else (if x2 = 0 then ((kji_bitCount (kv_fewestToWin f3_0 f3_1 a6 a31 a35 a41 a42 l11 x1).1), (kv_fewestToWin f3_0 f3_1 a6 a31 a35 a41 a42 l11 x1).2.1, (kv_fewestToWin f3_0 f3_1 a6 a31 a35 a41 a42 l11 x1).2.2.1, (kv_fewestToWin f3_0 f3_1 a6 a31 a35 a41 a42 l11 x1).2.2.2.1, (kv_fewestToWin f3_0 f3_1 a6 a31 a35 a41 a42 l11 x1).2.2.2.2) else ((kv_fewestToWin f3_0 f3_1 a6 a31 a35 a41 a42 l11 x1).1, (kv_fewestToWin f3_0 f3_1 a6 a31 a35 a41 a42 l11 x1).2.1, (kv_fewestToWin f3_0 f3_1 a6 a31 a35 a41 a42 l11 x1).2.2.1, (kv_fewestToWin f3_0 f3_1 a6 a31 a35 a41 a42 l11 x1).2.2.2.1, (kv_fewestToWin f3_0 f3_1 a6 a31 a35 a41 a42 l11 x1).2.2.2.2)))))
theorem t_kc_wonOver {f D : Nat} {F : Nat → Nat → Int32} {A : Nat → List Int32} {L : Nat → List Int64} {Q : Option Value → sm_H → Prop} {x1 : Int32} {x2 : Int32} (hh0 : (F 3 1).toInt < 2147483647) (K : Q (some (.int ((kc_wonOver (F 3 0) (F 3 1) (A 6) (A 31) (A 35) (A 41) (A 42) (L 11) x1 x2).1))) (hz F (uA (uA (uA (uA A 31 ((kc_wonOver (F 3 0) (F 3 1) (A 6) (A 31) (A 35) (A 41) (A 42) (L 11) x1 x2).2.1)) 35 ((kc_wonOver (F 3 0) (F 3 1) (A 6) (A 31) (A 35) (A 41) (A 42) (L 11) x1 x2).2.2.1)) 41 ((kc_wonOver (F 3 0) (F 3 1) (A 6) (A 31) (A 35) (A 41) (A 42) (L 11) x1 x2).2.2.2.1)) 42 ((kc_wonOver (F 3 0) (F 3 1) (A 6) (A 31) (A 35) (A 41) (A 42) (L 11) x1 x2).2.2.2.2)) L)) : wl_M f D 111 [.ref 0, .int x1, .int x2] (hz F A L) Q := by
  generalize hT : (kc_wonOver (F 3 0) (F 3 1) (A 6) (A 31) (A 35) (A 41) (A 42) (L 11) x1 x2) = T at K
  have hE : T = (if (kt_isMeasure (F 3 0) x1) = 0 then ((-1), (A 31), (A 35), (A 41), (A 42)) else (if (kc_within x2 0 1) = 0 then ((-1), (A 31), (A 35), (A 41), (A 42)) else (if (kv_fewestToWin (F 3 0) (F 3 1) (A 6) (A 31) (A 35) (A 41) (A 42) (L 11) x1).1 = (-1) then ((-2), (kv_fewestToWin (F 3 0) (F 3 1) (A 6) (A 31) (A 35) (A 41) (A 42) (L 11) x1).2.1, (kv_fewestToWin (F 3 0) (F 3 1) (A 6) (A 31) (A 35) (A 41) (A 42) (L 11) x1).2.2.1, (kv_fewestToWin (F 3 0) (F 3 1) (A 6) (A 31) (A 35) (A 41) (A 42) (L 11) x1).2.2.2.1, (kv_fewestToWin (F 3 0) (F 3 1) (A 6) (A 31) (A 35) (A 41) (A 42) (L 11) x1).2.2.2.2) else (if x2 = 0 then ((kji_bitCount (kv_fewestToWin (F 3 0) (F 3 1) (A 6) (A 31) (A 35) (A 41) (A 42) (L 11) x1).1), (kv_fewestToWin (F 3 0) (F 3 1) (A 6) (A 31) (A 35) (A 41) (A 42) (L 11) x1).2.1, (kv_fewestToWin (F 3 0) (F 3 1) (A 6) (A 31) (A 35) (A 41) (A 42) (L 11) x1).2.2.1, (kv_fewestToWin (F 3 0) (F 3 1) (A 6) (A 31) (A 35) (A 41) (A 42) (L 11) x1).2.2.2.1, (kv_fewestToWin (F 3 0) (F 3 1) (A 6) (A 31) (A 35) (A 41) (A 42) (L 11) x1).2.2.2.2) else ((kv_fewestToWin (F 3 0) (F 3 1) (A 6) (A 31) (A 35) (A 41) (A 42) (L 11) x1).1, (kv_fewestToWin (F 3 0) (F 3 1) (A 6) (A 31) (A 35) (A 41) (A 42) (L 11) x1).2.1, (kv_fewestToWin (F 3 0) (F 3 1) (A 6) (A 31) (A 35) (A 41) (A 42) (L 11) x1).2.2.1, (kv_fewestToWin (F 3 0) (F 3 1) (A 6) (A 31) (A 35) (A 41) (A 42) (L 11) x1).2.2.2.1, (kv_fewestToWin (F 3 0) (F 3 1) (A 6) (A 31) (A 35) (A 41) (A 42) (L 11) x1).2.2.2.2))))) := hT.symm
  clear hT
  refine w_m (E := mm111) rfl ?_
  show wl_E f f (D - 1) mm111.2.2.2.2.2.2.2.2 0 [some (.ref 0), some (.int x1), some (.int x2), none] [] (hz F A L) Q
  refine w_n 3 (pc1 := 5) (ls1 := [some (.ref 0), some (.int x1), some (.int x2), none]) (st1 := [.int x1, .ref 3]) (hp1 := (hz F A L)) rfl ?_
  refine w_c rfl rfl (t_kt_isMeasure ?_)
  show wl_E f _ _ mm111.2.2.2.2.2.2.2.2 8 [some (.ref 0), some (.int x1), some (.int x2), none] [.int (kt_isMeasure (F 3 0) x1)] (hz F A L) _
  generalize hG167 : (kt_isMeasure (F 3 0) x1) = G167 at hE ⊢
  refine w_zeq (p3 := 11) rfl rfl (fun h => ?_) (fun h => ?_)
  · have h1 : G167 = 0 := h
    rw [if_pos h1] at hE
    refine w_n 1 (pc1 := 21) (ls1 := [some (.ref 0), some (.int x1), some (.int x2), none]) (st1 := [.int (-1)]) (hp1 := (hz F A L)) rfl ?_
    subst T
    exact w_ri rfl (cvQ rfl (funext fun q => if k0 : q = 31 then by subst k0; exact Eq.trans (b := (A 31)) rfl rfl else if k1 : q = 35 then by subst k1; exact Eq.trans (b := (A 35)) rfl rfl else if k2 : q = 41 then by subst k2; exact Eq.trans (b := (A 41)) rfl rfl else if k3 : q = 42 then by subst k3; exact Eq.trans (b := (A 42)) rfl rfl else by unfold uA; simp only [nb1 k0, nb1 k1, nb1 k2, nb1 k3, cond_false]) rfl K)
  · have h1 : ¬ G167 = 0 := h
    rw [if_neg h1] at hE
    refine w_n 3 (pc1 := 14) (ls1 := [some (.ref 0), some (.int x1), some (.int x2), none]) (st1 := [.int 1, .int 0, .int x2]) (hp1 := (hz F A L)) rfl ?_
    refine w_c rfl rfl (t_kc_within ?_)
    show wl_E f _ _ mm111.2.2.2.2.2.2.2.2 17 [some (.ref 0), some (.int x1), some (.int x2), none] [.int (kc_within x2 0 1)] (hz F A L) _
    generalize hG168 : (kc_within x2 0 1) = G168 at hE ⊢
    refine w_zne (p3 := 20) rfl rfl (fun h => ?_) (fun h => ?_)
    · have h2 : ¬ G168 = 0 := h
      rw [if_neg h2] at hE
      refine w_n 3 (pc1 := 27) (ls1 := [some (.ref 0), some (.int x1), some (.int x2), none]) (st1 := [.int x1, .ref 30]) (hp1 := (hz F A L)) rfl ?_
      refine w_c rfl rfl (t_kv_fewestToWin hh0 ?_)
      show wl_E f _ _ mm111.2.2.2.2.2.2.2.2 30 [some (.ref 0), some (.int x1), some (.int x2), none] [.int (kv_fewestToWin (F 3 0) (F 3 1) (A 6) (A 31) (A 35) (A 41) (A 42) (L 11) x1).1] (hz F (uA (uA (uA (uA A 31 (kv_fewestToWin (F 3 0) (F 3 1) (A 6) (A 31) (A 35) (A 41) (A 42) (L 11) x1).2.1) 35 (kv_fewestToWin (F 3 0) (F 3 1) (A 6) (A 31) (A 35) (A 41) (A 42) (L 11) x1).2.2.1) 41 (kv_fewestToWin (F 3 0) (F 3 1) (A 6) (A 31) (A 35) (A 41) (A 42) (L 11) x1).2.2.2.1) 42 (kv_fewestToWin (F 3 0) (F 3 1) (A 6) (A 31) (A 35) (A 41) (A 42) (L 11) x1).2.2.2.2) L) _
      generalize hG177 : (kv_fewestToWin (F 3 0) (F 3 1) (A 6) (A 31) (A 35) (A 41) (A 42) (L 11) x1) = G177 at hE ⊢
      refine w_n 3 (pc1 := 33) (ls1 := [some (.ref 0), some (.int x1), some (.int x2), some (.int G177.1)]) (st1 := [.int (-1), .int G177.1]) (hp1 := (hz F (uA (uA (uA (uA A 31 G177.2.1) 35 G177.2.2.1) 41 G177.2.2.2.1) 42 G177.2.2.2.2) L)) rfl ?_
      refine w_ne (p3 := 36) rfl rfl (fun h => ?_) (fun h => ?_)
      · have h3 : ¬ G177.1 = (-1) := h
        rw [if_neg h3] at hE
        refine w_n 1 (pc1 := 40) (ls1 := [some (.ref 0), some (.int x1), some (.int x2), some (.int G177.1)]) (st1 := [.int x2]) (hp1 := (hz F (uA (uA (uA (uA A 31 G177.2.1) 35 G177.2.2.1) 41 G177.2.2.2.1) 42 G177.2.2.2.2) L)) rfl ?_
        refine w_zne (p3 := 43) rfl rfl (fun h => ?_) (fun h => ?_)
        · have h4 : ¬ x2 = 0 := h
          rw [if_neg h4] at hE
          refine w_n 1 (pc1 := 51) (ls1 := [some (.ref 0), some (.int x1), some (.int x2), some (.int G177.1)]) (st1 := [.int G177.1]) (hp1 := (hz F (uA (uA (uA (uA A 31 G177.2.1) 35 G177.2.2.1) 41 G177.2.2.2.1) 42 G177.2.2.2.2) L)) rfl ?_
          subst T
          exact w_ri rfl (cvQ rfl rfl rfl K)
        · have h4 : x2 = 0 := h
          rw [if_pos h4] at hE
          refine w_n 1 (pc1 := 44) (ls1 := [some (.ref 0), some (.int x1), some (.int x2), some (.int G177.1)]) (st1 := [.int G177.1]) (hp1 := (hz F (uA (uA (uA (uA A 31 G177.2.1) 35 G177.2.2.1) 41 G177.2.2.2.1) 42 G177.2.2.2.2) L)) rfl ?_
          refine w_c rfl rfl (t_kji_bitCount ?_)
          show wl_E f _ _ mm111.2.2.2.2.2.2.2.2 47 [some (.ref 0), some (.int x1), some (.int x2), some (.int G177.1)] [.int (kji_bitCount G177.1)] (hz F (uA (uA (uA (uA A 31 G177.2.1) 35 G177.2.2.1) 41 G177.2.2.2.1) 42 G177.2.2.2.2) L) _
          generalize hG178 : (kji_bitCount G177.1) = G178 at hE ⊢
          refine w_n 1 (pc1 := 51) (ls1 := [some (.ref 0), some (.int x1), some (.int x2), some (.int G177.1)]) (st1 := [.int G178]) (hp1 := (hz F (uA (uA (uA (uA A 31 G177.2.1) 35 G177.2.2.1) 41 G177.2.2.2.1) 42 G177.2.2.2.2) L)) rfl ?_
          subst T
          exact w_ri rfl (cvQ rfl rfl rfl K)
      · have h3 : G177.1 = (-1) := h
        rw [if_pos h3] at hE
        refine w_n 1 (pc1 := 38) (ls1 := [some (.ref 0), some (.int x1), some (.int x2), some (.int G177.1)]) (st1 := [.int (-2)]) (hp1 := (hz F (uA (uA (uA (uA A 31 G177.2.1) 35 G177.2.2.1) 41 G177.2.2.2.1) 42 G177.2.2.2.2) L)) rfl ?_
        subst T
        exact w_ri rfl (cvQ rfl rfl rfl K)
    · have h2 : G168 = 0 := h
      rw [if_pos h2] at hE
      refine w_n 1 (pc1 := 21) (ls1 := [some (.ref 0), some (.int x1), some (.int x2), none]) (st1 := [.int (-1)]) (hp1 := (hz F A L)) rfl ?_
      subst T
      exact w_ri rfl (cvQ rfl (funext fun q => if k0 : q = 31 then by subst k0; exact Eq.trans (b := (A 31)) rfl rfl else if k1 : q = 35 then by subst k1; exact Eq.trans (b := (A 35)) rfl rfl else if k2 : q = 41 then by subst k2; exact Eq.trans (b := (A 41)) rfl rfl else if k3 : q = 42 then by subst k3; exact Eq.trans (b := (A 42)) rfl rfl else by unfold uA; simp only [nb1 k0, nb1 k1, nb1 k2, nb1 k3, cond_false]) rfl K)
noncomputable def km_biscuitsOf_4 (a68 : List Int32) (x1 : Int32) : Nat → Int32 → Int32 → Int32
  | 0, y2, _ => y2
  | m + 1, y2, y3 => (if (km_has x1 y3) = 0 then (km_biscuitsOf_4 a68 x1 m (y2 + 0) (y3 + 1)) else (km_biscuitsOf_4 a68 x1 m (y2 + (a68.getD (12 + y3).toInt.toNat 0)) (y3 + 1)))
theorem t_km_biscuitsOf_4 {f : Nat} {Q : Option Value → sm_H → Prop} : ∀ (m : Nat) {B D : Nat} {F : Nat → Nat → Int32} {A : Nat → List Int32} {L : Nat → List Int64} {x1 : Int32} {y2 : Int32} {y3 : Int32}, m = (12 - y3.toInt).toNat → (∀ q3 : Int32, wl_E f B D mm230.2.2.2.2.2.2.2.2 40 [some (.ref 67), some (.int x1), some (.int (km_biscuitsOf_4 (A 68) x1 m y2 y3)), some (.int q3)] [] (hz F A L) Q) → wl_E f B D mm230.2.2.2.2.2.2.2.2 4 [some (.ref 67), some (.int x1), some (.int y2), some (.int y3)] [] (hz F A L) Q := by
  intro m
  induction m with
  | zero =>
    intro B D F A L x1 y2 y3 hm K
    generalize hT : (km_biscuitsOf_4 (A 68) x1 0 y2 y3) = T at K
    have hE : T = y2 := hT.symm
    clear hT
    refine w_n 2 (pc1 := 7) (ls1 := [some (.ref 67), some (.int x1), some (.int y2), some (.int y3)]) (st1 := [.int 12, .int y3]) (hp1 := (hz F A L)) rfl ?_
    refine w_ge (p3 := 10) rfl rfl (fun hb => ?_) (fun h => False.elim (by have h : y3.toInt < 12 := h; omega))
    subst T
    exact cvE rfl rfl rfl (K _)
  | succ m ih =>
    intro B D F A L x1 y2 y3 hm K
    generalize hT : (km_biscuitsOf_4 (A 68) x1 (m + 1) y2 y3) = T at K
    have hE : T = (if (km_has x1 y3) = 0 then (km_biscuitsOf_4 (A 68) x1 m (y2 + 0) (y3 + 1)) else (km_biscuitsOf_4 (A 68) x1 m (y2 + ((A 68).getD (12 + y3).toInt.toNat 0)) (y3 + 1))) := hT.symm
    clear hT
    refine w_n 2 (pc1 := 7) (ls1 := [some (.ref 67), some (.int x1), some (.int y2), some (.int y3)]) (st1 := [.int 12, .int y3]) (hp1 := (hz F A L)) rfl ?_
    refine w_ge (p3 := 10) rfl rfl (fun h => False.elim (by have h : 12 ≤ y3.toInt := h; omega)) (fun hb => ?_)
    refine w_n 3 (pc1 := 13) (ls1 := [some (.ref 67), some (.int x1), some (.int y2), some (.int y3)]) (st1 := [.int y3, .int x1, .int y2]) (hp1 := (hz F A L)) rfl ?_
    refine w_c rfl rfl (t_km_has ?_)
    show wl_E f _ _ mm230.2.2.2.2.2.2.2.2 16 [some (.ref 67), some (.int x1), some (.int y2), some (.int y3)] [.int (km_has x1 y3), .int y2] (hz F A L) _
    generalize hG183 : (km_has x1 y3) = G183 at hE ⊢
    refine w_zeq (p3 := 19) rfl rfl (fun h => ?_) (fun h => ?_)
    · have h1 : G183 = 0 := h
      rw [if_pos h1] at hE
      refine w_n 5 (pc1 := 4) (ls1 := [some (.ref 67), some (.int x1), some (.int (y2 + 0)), some (.int (y3 + 1))]) (st1 := []) (hp1 := (hz F A L)) rfl ?_
      subst T
      have hb2 := i_up (B := (12 : Int32)) hb
      have hb3 : y3.toInt < 12 := hb
      exact ih (show m = (12 - (y3 + 1).toInt).toNat by rw [hb2]; omega) (fun q3 => cvE rfl rfl rfl (K q3))
    · have h1 : ¬ G183 = 0 := h
      rw [if_neg h1] at hE
      refine w_n 5 (pc1 := 27) (ls1 := [some (.ref 67), some (.int x1), some (.int y2), some (.int y3)]) (st1 := [.int (12 + y3), .ref 68, .int y2]) (hp1 := (hz F A L)) rfl ?_
      refine w_al (k := 68) (l := (A 68)) rfl rfl rfl (fun _ => ?_)
      refine w_n 5 (pc1 := 4) (ls1 := [some (.ref 67), some (.int x1), some (.int (y2 + ((A 68).getD (12 + y3).toInt.toNat 0))), some (.int (y3 + 1))]) (st1 := []) (hp1 := (hz F A L)) rfl ?_
      subst T
      have hb2 := i_up (B := (12 : Int32)) hb
      have hb3 : y3.toInt < 12 := hb
      exact ih (show m = (12 - (y3 + 1).toInt).toNat by rw [hb2]; omega) (fun q3 => cvE rfl rfl rfl (K q3))
noncomputable def km_biscuitsOf (a68 : List Int32) (x1 : Int32) : Int32 := (km_biscuitsOf_4 a68 x1 12 0 0)
theorem t_km_biscuitsOf {f D : Nat} {F : Nat → Nat → Int32} {A : Nat → List Int32} {L : Nat → List Int64} {Q : Option Value → sm_H → Prop} {x1 : Int32} (K : Q (some (.int (km_biscuitsOf (A 68) x1))) (hz F A L)) : wl_M f D 230 [.ref 67, .int x1] (hz F A L) Q := by
  generalize hT : (km_biscuitsOf (A 68) x1) = T at K
  have hE : T = (km_biscuitsOf_4 (A 68) x1 12 0 0) := hT.symm
  clear hT
  refine w_m (E := mm230) rfl ?_
  show wl_E f f (D - 1) mm230.2.2.2.2.2.2.2.2 0 [some (.ref 67), some (.int x1), none, none] [] (hz F A L) Q
  refine w_n 4 (pc1 := 4) (ls1 := [some (.ref 67), some (.int x1), some (.int 0), some (.int 0)]) (st1 := []) (hp1 := (hz F A L)) rfl ?_
  refine t_km_biscuitsOf_4 12 (show (12 : Nat) = (12 - (0 : Int32).toInt).toNat by have e0 : (0 : Int32).toInt = 0 := rfl; first | rfl | omega) ?_
  intro r1
  show wl_E f _ _ mm230.2.2.2.2.2.2.2.2 40 [some (.ref 67), some (.int x1), some (.int (km_biscuitsOf_4 (A 68) x1 12 0 0)), some (.int r1)] [] (hz F A L) _
  generalize hG184 : (km_biscuitsOf_4 (A 68) x1 12 0 0) = G184 at hE ⊢
  refine w_n 1 (pc1 := 41) (ls1 := [some (.ref 67), some (.int x1), some (.int G184), some (.int r1)]) (st1 := [.int G184]) (hp1 := (hz F A L)) rfl ?_
  subst T
  exact w_ri rfl (cvQ rfl rfl rfl K)
noncomputable def km_isWon_29 (a87 : List Int32) (x1 : Int32) : Nat → Int32 → Int32 × List Int32
  | 0, _ => (1, a87)
  | m + 1, y3 => (if y3 = x1 then (km_isWon_29 a87 x1 m (y3 + 1)) else (if (a87.getD y3.toInt.toNat 0).toInt < (a87.getD x1.toInt.toNat 0).toInt then (km_isWon_29 a87 x1 m (y3 + 1)) else (0, a87)))
theorem t_km_isWon_29 {f : Nat} {Q : Option Value → sm_H → Prop} : ∀ (m : Nat) {B D : Nat} {F : Nat → Nat → Int32} {A : Nat → List Int32} {L : Nat → List Int64} {x1 : Int32} {x2 : Int32} {y3 : Int32}, m = ((F 67 3).toInt - y3.toInt).toNat → (Q (some (.int ((km_isWon_29 (A 87) x1 m y3).1))) (hz F (uA A 87 ((km_isWon_29 (A 87) x1 m y3).2)) L)) → wl_E f B D mm233.2.2.2.2.2.2.2.2 29 [some (.ref 67), some (.int x1), some (.int x2), some (.int y3)] [] (hz F A L) Q := by
  intro m
  induction m with
  | zero =>
    intro B D F A L x1 x2 y3 hm K
    generalize hT : (km_isWon_29 (A 87) x1 0 y3) = T at K
    have hE : T = (1, (A 87)) := hT.symm
    clear hT
    refine w_n 3 (pc1 := 34) (ls1 := [some (.ref 67), some (.int x1), some (.int x2), some (.int y3)]) (st1 := [.int (F 67 3), .int y3]) (hp1 := (hz F A L)) rfl ?_
    refine w_ge (p3 := 37) rfl rfl (fun hb => ?_) (fun h => False.elim (by have h : y3.toInt < (F 67 3).toInt := h; omega))
    refine w_n 1 (pc1 := 66) (ls1 := [some (.ref 67), some (.int x1), some (.int x2), some (.int y3)]) (st1 := [.int 1]) (hp1 := (hz F A L)) rfl ?_
    subst T
    exact w_ri rfl (cvQ rfl (funext fun q => if k0 : q = 87 then by subst k0; exact Eq.trans (b := (A 87)) rfl rfl else by unfold uA; simp only [nb1 k0, cond_false]) rfl K)
  | succ m ih =>
    intro B D F A L x1 x2 y3 hm K
    generalize hT : (km_isWon_29 (A 87) x1 (m + 1) y3) = T at K
    have hE : T = (if y3 = x1 then (km_isWon_29 (A 87) x1 m (y3 + 1)) else (if ((A 87).getD y3.toInt.toNat 0).toInt < ((A 87).getD x1.toInt.toNat 0).toInt then (km_isWon_29 (A 87) x1 m (y3 + 1)) else (0, (A 87)))) := hT.symm
    clear hT
    refine w_n 3 (pc1 := 34) (ls1 := [some (.ref 67), some (.int x1), some (.int x2), some (.int y3)]) (st1 := [.int (F 67 3), .int y3]) (hp1 := (hz F A L)) rfl ?_
    refine w_ge (p3 := 37) rfl rfl (fun h => False.elim (by have h : (F 67 3).toInt ≤ y3.toInt := h; omega)) (fun hb => ?_)
    refine w_n 2 (pc1 := 39) (ls1 := [some (.ref 67), some (.int x1), some (.int x2), some (.int y3)]) (st1 := [.int x1, .int y3]) (hp1 := (hz F A L)) rfl ?_
    refine w_eq (p3 := 42) rfl rfl (fun h => ?_) (fun h => ?_)
    · have h1 : y3 = x1 := h
      rw [if_pos h1] at hE
      refine w_n 2 (pc1 := 29) (ls1 := [some (.ref 67), some (.int x1), some (.int x2), some (.int (y3 + 1))]) (st1 := []) (hp1 := (hz F A L)) rfl ?_
      subst T
      have hb2 := i_up (B := (F 67 3)) hb
      have hb3 : y3.toInt < (F 67 3).toInt := hb
      exact ih (show m = ((F 67 3).toInt - (y3 + 1).toInt).toNat by rw [hb2]; omega) (cvQ rfl (funext fun q => if k0 : q = 87 then by subst k0; exact Eq.trans (b := (km_isWon_29 (A 87) x1 m (y3 + 1)).2) rfl rfl else by unfold uA; simp only [nb1 k0, cond_false]) rfl K)
    · have h1 : ¬ y3 = x1 := h
      rw [if_neg h1] at hE
      refine w_n 3 (pc1 := 47) (ls1 := [some (.ref 67), some (.int x1), some (.int x2), some (.int y3)]) (st1 := [.int y3, .ref 87]) (hp1 := (hz F A L)) rfl ?_
      refine w_al (k := 87) (l := (A 87)) rfl rfl rfl (fun ab => ?_)
      refine w_n 3 (pc1 := 53) (ls1 := [some (.ref 67), some (.int x1), some (.int x2), some (.int y3)]) (st1 := [.int x1, .ref 87, .int ((A 87).getD y3.toInt.toNat 0)]) (hp1 := (hz F A L)) rfl ?_
      refine w_al (k := 87) (l := (A 87)) rfl rfl rfl (fun _ => ?_)
      refine w_lt (p3 := 57) rfl rfl (fun h => ?_) (fun h => ?_)
      · have h2 : ((A 87).getD y3.toInt.toNat 0).toInt < ((A 87).getD x1.toInt.toNat 0).toInt := h
        rw [if_pos h2] at hE
        refine w_n 2 (pc1 := 29) (ls1 := [some (.ref 67), some (.int x1), some (.int x2), some (.int (y3 + 1))]) (st1 := []) (hp1 := (hz F A L)) rfl ?_
        subst T
        have hb2 := i_up (B := (F 67 3)) hb
        have hb3 : y3.toInt < (F 67 3).toInt := hb
        exact ih (show m = ((F 67 3).toInt - (y3 + 1).toInt).toNat by rw [hb2]; omega) (cvQ rfl (funext fun q => if k0 : q = 87 then by subst k0; exact Eq.trans (b := (km_isWon_29 (A 87) x1 m (y3 + 1)).2) rfl rfl else by unfold uA; simp only [nb1 k0, cond_false]) rfl K)
      · have h2 : ((A 87).getD x1.toInt.toNat 0).toInt ≤ ((A 87).getD y3.toInt.toNat 0).toInt := h
        rw [if_neg (Int.not_lt.mpr h2)] at hE
        refine w_n 1 (pc1 := 58) (ls1 := [some (.ref 67), some (.int x1), some (.int x2), some (.int y3)]) (st1 := [.int 0]) (hp1 := (hz F A L)) rfl ?_
        subst T
        exact w_ri rfl (cvQ rfl (funext fun q => if k0 : q = 87 then by subst k0; exact Eq.trans (b := (A 87)) rfl rfl else by unfold uA; simp only [nb1 k0, cond_false]) rfl K)
noncomputable def km_isWon (f67_3 : Int32) (a68 : List Int32) (a87 : List Int32) (x1 : Int32) (x2 : Int32) : Int32 × List Int32 := (km_isWon_29 ((km_laysFirsts f67_3 a68 a87 (km_allMeasures f67_3) x2).set x1.toInt.toNat (((km_laysFirsts f67_3 a68 a87 (km_allMeasures f67_3) x2).getD x1.toInt.toNat 0) + (km_biscuitsOf a68 x2))) x1 f67_3.toInt.toNat 0)
theorem t_km_isWon {f D : Nat} {F : Nat → Nat → Int32} {A : Nat → List Int32} {L : Nat → List Int64} {Q : Option Value → sm_H → Prop} {x1 : Int32} {x2 : Int32} (K : Q (some (.int ((km_isWon (F 67 3) (A 68) (A 87) x1 x2).1))) (hz F (uA A 87 ((km_isWon (F 67 3) (A 68) (A 87) x1 x2).2)) L)) : wl_M f D 233 [.ref 67, .int x1, .int x2] (hz F A L) Q := by
  generalize hT : (km_isWon (F 67 3) (A 68) (A 87) x1 x2) = T at K
  have hE : T = (km_isWon_29 ((km_laysFirsts (F 67 3) (A 68) (A 87) (km_allMeasures (F 67 3)) x2).set x1.toInt.toNat (((km_laysFirsts (F 67 3) (A 68) (A 87) (km_allMeasures (F 67 3)) x2).getD x1.toInt.toNat 0) + (km_biscuitsOf (A 68) x2))) x1 (F 67 3).toInt.toNat 0) := hT.symm
  clear hT
  refine w_m (E := mm233) rfl ?_
  show wl_E f f (D - 1) mm233.2.2.2.2.2.2.2.2 0 [some (.ref 67), some (.int x1), some (.int x2), none] [] (hz F A L) Q
  refine w_n 2 (pc1 := 2) (ls1 := [some (.ref 67), some (.int x1), some (.int x2), none]) (st1 := [.ref 67, .ref 67]) (hp1 := (hz F A L)) rfl ?_
  refine w_c rfl rfl (t_km_allMeasures ?_)
  show wl_E f _ _ mm233.2.2.2.2.2.2.2.2 5 [some (.ref 67), some (.int x1), some (.int x2), none] [.int (km_allMeasures (F 67 3)), .ref 67] (hz F A L) _
  generalize hG181 : (km_allMeasures (F 67 3)) = G181 at hE ⊢
  refine w_n 1 (pc1 := 6) (ls1 := [some (.ref 67), some (.int x1), some (.int x2), none]) (st1 := [.int x2, .int G181, .ref 67]) (hp1 := (hz F A L)) rfl ?_
  refine w_c rfl rfl (t_km_laysFirsts ?_)
  show wl_E f _ _ mm233.2.2.2.2.2.2.2.2 9 [some (.ref 67), some (.int x1), some (.int x2), none] [] (hz F (uA A 87 (km_laysFirsts (F 67 3) (A 68) (A 87) G181 x2)) L) _
  generalize hG182 : (km_laysFirsts (F 67 3) (A 68) (A 87) G181 x2) = G182 at hE ⊢
  refine w_n 6 (pc1 := 19) (ls1 := [some (.ref 67), some (.int x1), some (.int x2), none]) (st1 := [.int x1, .ref 87, .int x1, .ref 87]) (hp1 := (hz F (uA A 87 G182) L)) rfl ?_
  refine w_al (k := 87) (l := G182) rfl rfl rfl (fun _ => ?_)
  refine w_n 2 (pc1 := 22) (ls1 := [some (.ref 67), some (.int x1), some (.int x2), none]) (st1 := [.int x2, .ref 67, .int (G182.getD x1.toInt.toNat 0), .int x1, .ref 87]) (hp1 := (hz F (uA A 87 G182) L)) rfl ?_
  refine w_c rfl rfl (t_km_biscuitsOf ?_)
  show wl_E f _ _ mm233.2.2.2.2.2.2.2.2 25 [some (.ref 67), some (.int x1), some (.int x2), none] [.int (km_biscuitsOf (A 68) x2), .int (G182.getD x1.toInt.toNat 0), .int x1, .ref 87] (hz F (uA A 87 G182) L) _
  generalize hG185 : (km_biscuitsOf (A 68) x2) = G185 at hE ⊢
  refine w_n 1 (pc1 := 26) (ls1 := [some (.ref 67), some (.int x1), some (.int x2), none]) (st1 := [.int ((G182.getD x1.toInt.toNat 0) + G185), .int x1, .ref 87]) (hp1 := (hz F (uA A 87 G182) L)) rfl ?_
  refine w_as (k := 87) (l := G182) (hp1 := (hz F (uA (uA A 87 G182) 87 (G182.set x1.toInt.toNat ((G182.getD x1.toInt.toNat 0) + G185))) L)) rfl rfl rfl (hz_s87 _) (fun _ => ?_)
  refine w_n 2 (pc1 := 29) (ls1 := [some (.ref 67), some (.int x1), some (.int x2), some (.int 0)]) (st1 := []) (hp1 := (hz F (uA (uA A 87 G182) 87 (G182.set x1.toInt.toNat ((G182.getD x1.toInt.toNat 0) + G185))) L)) rfl ?_
  subst T
  exact t_km_isWon_29 _ (show (F 67 3).toInt.toNat = ((F 67 3).toInt - (0 : Int32).toInt).toNat by have e0 : (0 : Int32).toInt = 0 := rfl; first | rfl | omega) (cvQ rfl (funext fun q => if k0 : q = 87 then by subst k0; exact Eq.trans (b := (km_isWon_29 (G182.set x1.toInt.toNat ((G182.getD x1.toInt.toNat 0) + G185)) x1 (F 67 3).toInt.toNat 0).2) rfl rfl else by unfold uA; simp only [nb1 k0, cond_false]) rfl K)
noncomputable def km_bits_4  (x0 : Int32) : Nat → Int32 → Int32 → Int32
  | 0, y1, _ => y1
  | m + 1, y1, y2 => (km_bits_4 x0 m (y1 + ((x0 >>> (y2 &&& 31)) &&& 1)) (y2 + 1))
theorem t_km_bits_4 {f : Nat} {Q : Option Value → sm_H → Prop} : ∀ (m : Nat) {B D : Nat} {F : Nat → Nat → Int32} {A : Nat → List Int32} {L : Nat → List Int64} {x0 : Int32} {y1 : Int32} {y2 : Int32}, m = (12 - y2.toInt).toNat → (∀ q2 : Int32, wl_E f B D mm215.2.2.2.2.2.2.2.2 24 [some (.int x0), some (.int (km_bits_4 x0 m y1 y2)), some (.int q2)] [] (hz F A L) Q) → wl_E f B D mm215.2.2.2.2.2.2.2.2 4 [some (.int x0), some (.int y1), some (.int y2)] [] (hz F A L) Q := by
  intro m
  induction m with
  | zero =>
    intro B D F A L x0 y1 y2 hm K
    generalize hT : (km_bits_4 x0 0 y1 y2) = T at K
    have hE : T = y1 := hT.symm
    clear hT
    refine w_n 2 (pc1 := 7) (ls1 := [some (.int x0), some (.int y1), some (.int y2)]) (st1 := [.int 12, .int y2]) (hp1 := (hz F A L)) rfl ?_
    refine w_ge (p3 := 10) rfl rfl (fun hb => ?_) (fun h => False.elim (by have h : y2.toInt < 12 := h; omega))
    subst T
    exact cvE rfl rfl rfl (K _)
  | succ m ih =>
    intro B D F A L x0 y1 y2 hm K
    generalize hT : (km_bits_4 x0 (m + 1) y1 y2) = T at K
    have hE : T = (km_bits_4 x0 m (y1 + ((x0 >>> (y2 &&& 31)) &&& 1)) (y2 + 1)) := hT.symm
    clear hT
    refine w_n 2 (pc1 := 7) (ls1 := [some (.int x0), some (.int y1), some (.int y2)]) (st1 := [.int 12, .int y2]) (hp1 := (hz F A L)) rfl ?_
    refine w_ge (p3 := 10) rfl rfl (fun h => False.elim (by have h : 12 ≤ y2.toInt := h; omega)) (fun hb => ?_)
    refine w_n 10 (pc1 := 4) (ls1 := [some (.int x0), some (.int (y1 + ((x0 >>> (y2 &&& 31)) &&& 1))), some (.int (y2 + 1))]) (st1 := []) (hp1 := (hz F A L)) rfl ?_
    subst T
    have hb2 := i_up (B := (12 : Int32)) hb
    have hb3 : y2.toInt < 12 := hb
    exact ih (show m = (12 - (y2 + 1).toInt).toNat by rw [hb2]; omega) (fun q2 => cvE rfl rfl rfl (K q2))
noncomputable def km_bits (x0 : Int32) : Int32 := (km_bits_4 x0 12 0 0)
theorem t_km_bits {f D : Nat} {F : Nat → Nat → Int32} {A : Nat → List Int32} {L : Nat → List Int64} {Q : Option Value → sm_H → Prop} {x0 : Int32} (K : Q (some (.int (km_bits x0))) (hz F A L)) : wl_M f D 215 [.int x0] (hz F A L) Q := by
  generalize hT : (km_bits x0) = T at K
  have hE : T = (km_bits_4 x0 12 0 0) := hT.symm
  clear hT
  refine w_m (E := mm215) rfl ?_
  show wl_E f f (D - 1) mm215.2.2.2.2.2.2.2.2 0 [some (.int x0), none, none] [] (hz F A L) Q
  refine w_n 4 (pc1 := 4) (ls1 := [some (.int x0), some (.int 0), some (.int 0)]) (st1 := []) (hp1 := (hz F A L)) rfl ?_
  refine t_km_bits_4 12 (show (12 : Nat) = (12 - (0 : Int32).toInt).toNat by have e0 : (0 : Int32).toInt = 0 := rfl; first | rfl | omega) ?_
  intro r1
  show wl_E f _ _ mm215.2.2.2.2.2.2.2.2 24 [some (.int x0), some (.int (km_bits_4 x0 12 0 0)), some (.int r1)] [] (hz F A L) _
  generalize hG187 : (km_bits_4 x0 12 0 0) = G187 at hE ⊢
  refine w_n 1 (pc1 := 25) (ls1 := [some (.int x0), some (.int G187), some (.int r1)]) (st1 := [.int G187]) (hp1 := (hz F A L)) rfl ?_
  subst T
  exact w_ri rfl (cvQ rfl rfl rfl K)
noncomputable def km_wonOver_25 (f67_3 : Int32) (a68 : List Int32) (x1 : Int32) : Nat → Int32 → Int32 → List Int32 → Int32 × List Int32
  | 0, y3, _, a87 => (y3, a87)
  | m + 1, y3, y4, a87 => (if (y4 &&& ((a68.getD 144 0) ^^^ (-1))) = 0 then (if y3 = (-2) then (if (km_isWon f67_3 a68 a87 x1 y4).1 = 0 then (km_wonOver_25 f67_3 a68 x1 m y3 (y4 + 1) (km_isWon f67_3 a68 a87 x1 y4).2) else (km_wonOver_25 f67_3 a68 x1 m y4 (y4 + 1) (km_isWon f67_3 a68 a87 x1 y4).2)) else (if (km_bits y4).toInt < (km_bits y3).toInt then (if (km_isWon f67_3 a68 a87 x1 y4).1 = 0 then (km_wonOver_25 f67_3 a68 x1 m y3 (y4 + 1) (km_isWon f67_3 a68 a87 x1 y4).2) else (km_wonOver_25 f67_3 a68 x1 m y4 (y4 + 1) (km_isWon f67_3 a68 a87 x1 y4).2)) else (km_wonOver_25 f67_3 a68 x1 m y3 (y4 + 1) a87))) else (km_wonOver_25 f67_3 a68 x1 m y3 (y4 + 1) a87))
theorem t_km_wonOver_25 {f : Nat} {Q : Option Value → sm_H → Prop} : ∀ (m : Nat) {B D : Nat} {F : Nat → Nat → Int32} {A : Nat → List Int32} {L : Nat → List Int64} {x1 : Int32} {x2 : Int32} {y3 : Int32} {y4 : Int32}, m = (((A 68).getD 144 0).toInt + 1 - y4.toInt).toNat → (_ : ((A 68).getD 144 0).toInt < 2147483647) → (∀ q4 : Int32, wl_E f B D mm232.2.2.2.2.2.2.2.2 94 [some (.ref 67), some (.int x1), some (.int x2), some (.int ((km_wonOver_25 (F 67 3) (A 68) x1 m y3 y4 (A 87)).1)), some (.int q4)] [] (hz F (uA A 87 ((km_wonOver_25 (F 67 3) (A 68) x1 m y3 y4 (A 87)).2)) L) Q) → wl_E f B D mm232.2.2.2.2.2.2.2.2 25 [some (.ref 67), some (.int x1), some (.int x2), some (.int y3), some (.int y4)] [] (hz F A L) Q := by
  intro m
  induction m with
  | zero =>
    intro B D F A L x1 x2 y3 y4 hm hh0 K
    generalize hT : (km_wonOver_25 (F 67 3) (A 68) x1 0 y3 y4 (A 87)) = T at K
    have hE : T = (y3, (A 87)) := hT.symm
    clear hT
    refine w_n 4 (pc1 := 34) (ls1 := [some (.ref 67), some (.int x1), some (.int x2), some (.int y3), some (.int y4)]) (st1 := [.int 144, .ref 68, .int y4]) (hp1 := (hz F A L)) rfl ?_
    refine w_al (k := 68) (l := (A 68)) rfl rfl rfl (fun _ => ?_)
    refine w_gt (p3 := 38) rfl rfl (fun hb => ?_) (fun h => False.elim (by have h : y4.toInt ≤ ((A 68).getD 144 0).toInt := h; omega))
    subst T
    exact cvE rfl (funext fun q => if k0 : q = 87 then by subst k0; exact Eq.trans (b := (A 87)) rfl rfl else by unfold uA; simp only [nb1 k0, cond_false]) rfl (K _)
  | succ m ih =>
    intro B D F A L x1 x2 y3 y4 hm hh0 K
    generalize hT : (km_wonOver_25 (F 67 3) (A 68) x1 (m + 1) y3 y4 (A 87)) = T at K
    have hE : T = (if (y4 &&& (((A 68).getD 144 0) ^^^ (-1))) = 0 then (if y3 = (-2) then (if (km_isWon (F 67 3) (A 68) (A 87) x1 y4).1 = 0 then (km_wonOver_25 (F 67 3) (A 68) x1 m y3 (y4 + 1) (km_isWon (F 67 3) (A 68) (A 87) x1 y4).2) else (km_wonOver_25 (F 67 3) (A 68) x1 m y4 (y4 + 1) (km_isWon (F 67 3) (A 68) (A 87) x1 y4).2)) else (if (km_bits y4).toInt < (km_bits y3).toInt then (if (km_isWon (F 67 3) (A 68) (A 87) x1 y4).1 = 0 then (km_wonOver_25 (F 67 3) (A 68) x1 m y3 (y4 + 1) (km_isWon (F 67 3) (A 68) (A 87) x1 y4).2) else (km_wonOver_25 (F 67 3) (A 68) x1 m y4 (y4 + 1) (km_isWon (F 67 3) (A 68) (A 87) x1 y4).2)) else (km_wonOver_25 (F 67 3) (A 68) x1 m y3 (y4 + 1) (A 87)))) else (km_wonOver_25 (F 67 3) (A 68) x1 m y3 (y4 + 1) (A 87))) := hT.symm
    clear hT
    refine w_n 4 (pc1 := 34) (ls1 := [some (.ref 67), some (.int x1), some (.int x2), some (.int y3), some (.int y4)]) (st1 := [.int 144, .ref 68, .int y4]) (hp1 := (hz F A L)) rfl ?_
    refine w_al (k := 68) (l := (A 68)) rfl rfl rfl (fun _ => ?_)
    refine w_gt (p3 := 38) rfl rfl (fun h => False.elim (by have h : ((A 68).getD 144 0).toInt < y4.toInt := h; omega)) (fun hb => ?_)
    refine w_n 4 (pc1 := 47) (ls1 := [some (.ref 67), some (.int x1), some (.int x2), some (.int y3), some (.int y4)]) (st1 := [.int 144, .ref 68, .int y4]) (hp1 := (hz F A L)) rfl ?_
    refine w_al (k := 68) (l := (A 68)) rfl rfl rfl (fun _ => ?_)
    refine w_n 3 (pc1 := 51) (ls1 := [some (.ref 67), some (.int x1), some (.int x2), some (.int y3), some (.int y4)]) (st1 := [.int (y4 &&& (((A 68).getD 144 0) ^^^ (-1)))]) (hp1 := (hz F A L)) rfl ?_
    refine w_zne (p3 := 54) rfl rfl (fun h => ?_) (fun h => ?_)
    · have h1 : ¬ (y4 &&& (((A 68).getD 144 0) ^^^ (-1))) = 0 := h
      rw [if_neg h1] at hE
      refine w_n 2 (pc1 := 25) (ls1 := [some (.ref 67), some (.int x1), some (.int x2), some (.int y3), some (.int (y4 + 1))]) (st1 := []) (hp1 := (hz F A L)) rfl ?_
      subst T
      have hb2 := i_up2 (B := ((A 68).getD 144 0)) hb (by first | decide | exact hB | assumption)
      have hb3 : y4.toInt ≤ ((A 68).getD 144 0).toInt := hb
      exact ih (show m = (((A 68).getD 144 0).toInt + 1 - (y4 + 1).toInt).toNat by rw [hb2]; omega) hh0 (fun q4 => cvE rfl (funext fun q => if k0 : q = 87 then by subst k0; exact Eq.trans (b := (km_wonOver_25 (F 67 3) (A 68) x1 m y3 (y4 + 1) (A 87)).2) rfl rfl else by unfold uA; simp only [nb1 k0, cond_false]) rfl (K q4))
    · have h1 : (y4 &&& (((A 68).getD 144 0) ^^^ (-1))) = 0 := h
      rw [if_pos h1] at hE
      refine w_n 2 (pc1 := 57) (ls1 := [some (.ref 67), some (.int x1), some (.int x2), some (.int y3), some (.int y4)]) (st1 := [.int (-2), .int y3]) (hp1 := (hz F A L)) rfl ?_
      refine w_eq (p3 := 60) rfl rfl (fun h => ?_) (fun h => ?_)
      · have h2 : y3 = (-2) := h
        rw [if_pos h2] at hE
        refine w_n 3 (pc1 := 76) (ls1 := [some (.ref 67), some (.int x1), some (.int x2), some (.int y3), some (.int y4)]) (st1 := [.int y4, .int x1, .ref 67]) (hp1 := (hz F A L)) rfl ?_
        refine w_c rfl rfl (t_km_isWon ?_)
        show wl_E f _ _ mm232.2.2.2.2.2.2.2.2 79 [some (.ref 67), some (.int x1), some (.int x2), some (.int y3), some (.int y4)] [.int (km_isWon (F 67 3) (A 68) (A 87) x1 y4).1] (hz F (uA A 87 (km_isWon (F 67 3) (A 68) (A 87) x1 y4).2) L) _
        generalize hG186 : (km_isWon (F 67 3) (A 68) (A 87) x1 y4) = G186 at hE ⊢
        refine w_zne (p3 := 82) rfl rfl (fun h => ?_) (fun h => ?_)
        · have h3 : ¬ G186.1 = 0 := h
          rw [if_neg h3] at hE
          refine w_n 4 (pc1 := 25) (ls1 := [some (.ref 67), some (.int x1), some (.int x2), some (.int y4), some (.int (y4 + 1))]) (st1 := []) (hp1 := (hz F (uA A 87 G186.2) L)) rfl ?_
          subst T
          have hb2 := i_up2 (B := ((A 68).getD 144 0)) hb (by first | decide | exact hB | assumption)
          have hb3 : y4.toInt ≤ ((A 68).getD 144 0).toInt := hb
          exact ih (show m = (((A 68).getD 144 0).toInt + 1 - (y4 + 1).toInt).toNat by rw [hb2]; omega) hh0 (fun q4 => cvE rfl (funext fun q => if k0 : q = 87 then by subst k0; exact Eq.trans (b := (km_wonOver_25 (F 67 3) (A 68) x1 m y4 (y4 + 1) G186.2).2) rfl rfl else by unfold uA; simp only [nb1 k0, cond_false]) rfl (K q4))
        · have h3 : G186.1 = 0 := h
          rw [if_pos h3] at hE
          refine w_n 3 (pc1 := 25) (ls1 := [some (.ref 67), some (.int x1), some (.int x2), some (.int y3), some (.int (y4 + 1))]) (st1 := []) (hp1 := (hz F (uA A 87 G186.2) L)) rfl ?_
          subst T
          have hb2 := i_up2 (B := ((A 68).getD 144 0)) hb (by first | decide | exact hB | assumption)
          have hb3 : y4.toInt ≤ ((A 68).getD 144 0).toInt := hb
          exact ih (show m = (((A 68).getD 144 0).toInt + 1 - (y4 + 1).toInt).toNat by rw [hb2]; omega) hh0 (fun q4 => cvE rfl (funext fun q => if k0 : q = 87 then by subst k0; exact Eq.trans (b := (km_wonOver_25 (F 67 3) (A 68) x1 m y3 (y4 + 1) G186.2).2) rfl rfl else by unfold uA; simp only [nb1 k0, cond_false]) rfl (K q4))
      · have h2 : ¬ y3 = (-2) := h
        rw [if_neg h2] at hE
        refine w_n 1 (pc1 := 62) (ls1 := [some (.ref 67), some (.int x1), some (.int x2), some (.int y3), some (.int y4)]) (st1 := [.int y4]) (hp1 := (hz F A L)) rfl ?_
        refine w_c rfl rfl (t_km_bits ?_)
        show wl_E f _ _ mm232.2.2.2.2.2.2.2.2 65 [some (.ref 67), some (.int x1), some (.int x2), some (.int y3), some (.int y4)] [.int (km_bits y4)] (hz F A L) _
        generalize hG188 : (km_bits y4) = G188 at hE ⊢
        refine w_n 1 (pc1 := 66) (ls1 := [some (.ref 67), some (.int x1), some (.int x2), some (.int y3), some (.int y4)]) (st1 := [.int y3, .int G188]) (hp1 := (hz F A L)) rfl ?_
        refine w_c rfl rfl (t_km_bits ?_)
        show wl_E f _ _ mm232.2.2.2.2.2.2.2.2 69 [some (.ref 67), some (.int x1), some (.int x2), some (.int y3), some (.int y4)] [.int (km_bits y3), .int G188] (hz F A L) _
        generalize hG189 : (km_bits y3) = G189 at hE ⊢
        refine w_ge (p3 := 72) rfl rfl (fun h => ?_) (fun h => ?_)
        · have h4 : G189.toInt ≤ G188.toInt := h
          rw [if_neg (Int.not_lt.mpr h4)] at hE
          refine w_n 2 (pc1 := 25) (ls1 := [some (.ref 67), some (.int x1), some (.int x2), some (.int y3), some (.int (y4 + 1))]) (st1 := []) (hp1 := (hz F A L)) rfl ?_
          subst T
          have hb2 := i_up2 (B := ((A 68).getD 144 0)) hb (by first | decide | exact hB | assumption)
          have hb3 : y4.toInt ≤ ((A 68).getD 144 0).toInt := hb
          exact ih (show m = (((A 68).getD 144 0).toInt + 1 - (y4 + 1).toInt).toNat by rw [hb2]; omega) hh0 (fun q4 => cvE rfl (funext fun q => if k0 : q = 87 then by subst k0; exact Eq.trans (b := (km_wonOver_25 (F 67 3) (A 68) x1 m y3 (y4 + 1) (A 87)).2) rfl rfl else by unfold uA; simp only [nb1 k0, cond_false]) rfl (K q4))
        · have h4 : G188.toInt < G189.toInt := h
          rw [if_pos h4] at hE
          refine w_n 3 (pc1 := 76) (ls1 := [some (.ref 67), some (.int x1), some (.int x2), some (.int y3), some (.int y4)]) (st1 := [.int y4, .int x1, .ref 67]) (hp1 := (hz F A L)) rfl ?_
          refine w_c rfl rfl (t_km_isWon ?_)
          show wl_E f _ _ mm232.2.2.2.2.2.2.2.2 79 [some (.ref 67), some (.int x1), some (.int x2), some (.int y3), some (.int y4)] [.int (km_isWon (F 67 3) (A 68) (A 87) x1 y4).1] (hz F (uA A 87 (km_isWon (F 67 3) (A 68) (A 87) x1 y4).2) L) _
          generalize hG190 : (km_isWon (F 67 3) (A 68) (A 87) x1 y4) = G190 at hE ⊢
          refine w_zne (p3 := 82) rfl rfl (fun h => ?_) (fun h => ?_)
          · have h5 : ¬ G190.1 = 0 := h
            rw [if_neg h5] at hE
            refine w_n 4 (pc1 := 25) (ls1 := [some (.ref 67), some (.int x1), some (.int x2), some (.int y4), some (.int (y4 + 1))]) (st1 := []) (hp1 := (hz F (uA A 87 G190.2) L)) rfl ?_
            subst T
            have hb2 := i_up2 (B := ((A 68).getD 144 0)) hb (by first | decide | exact hB | assumption)
            have hb3 : y4.toInt ≤ ((A 68).getD 144 0).toInt := hb
            exact ih (show m = (((A 68).getD 144 0).toInt + 1 - (y4 + 1).toInt).toNat by rw [hb2]; omega) hh0 (fun q4 => cvE rfl (funext fun q => if k0 : q = 87 then by subst k0; exact Eq.trans (b := (km_wonOver_25 (F 67 3) (A 68) x1 m y4 (y4 + 1) G190.2).2) rfl rfl else by unfold uA; simp only [nb1 k0, cond_false]) rfl (K q4))
          · have h5 : G190.1 = 0 := h
            rw [if_pos h5] at hE
            refine w_n 3 (pc1 := 25) (ls1 := [some (.ref 67), some (.int x1), some (.int x2), some (.int y3), some (.int (y4 + 1))]) (st1 := []) (hp1 := (hz F (uA A 87 G190.2) L)) rfl ?_
            subst T
            have hb2 := i_up2 (B := ((A 68).getD 144 0)) hb (by first | decide | exact hB | assumption)
            have hb3 : y4.toInt ≤ ((A 68).getD 144 0).toInt := hb
            exact ih (show m = (((A 68).getD 144 0).toInt + 1 - (y4 + 1).toInt).toNat by rw [hb2]; omega) hh0 (fun q4 => cvE rfl (funext fun q => if k0 : q = 87 then by subst k0; exact Eq.trans (b := (km_wonOver_25 (F 67 3) (A 68) x1 m y3 (y4 + 1) G190.2).2) rfl rfl else by unfold uA; simp only [nb1 k0, cond_false]) rfl (K q4))
noncomputable def km_wonOver (f67_3 : Int32) (a68 : List Int32) (a87 : List Int32) (x1 : Int32) (x2 : Int32) : Int32 × List Int32 := (if (km_isMeasure f67_3 x1) = 0 then ((-1), a87) else (if (km_in x2 0 1) = 0 then ((-1), a87) else (if x2 = 1 then ((km_wonOver_25 f67_3 a68 x1 ((a68.getD 144 0).toInt + 1).toNat (-2) 0 a87).1, (km_wonOver_25 f67_3 a68 x1 ((a68.getD 144 0).toInt + 1).toNat (-2) 0 a87).2) else (if (km_wonOver_25 f67_3 a68 x1 ((a68.getD 144 0).toInt + 1).toNat (-2) 0 a87).1 = (-2) then ((km_wonOver_25 f67_3 a68 x1 ((a68.getD 144 0).toInt + 1).toNat (-2) 0 a87).1, (km_wonOver_25 f67_3 a68 x1 ((a68.getD 144 0).toInt + 1).toNat (-2) 0 a87).2) else ((km_bits (km_wonOver_25 f67_3 a68 x1 ((a68.getD 144 0).toInt + 1).toNat (-2) 0 a87).1), (km_wonOver_25 f67_3 a68 x1 ((a68.getD 144 0).toInt + 1).toNat (-2) 0 a87).2)))))
theorem t_km_wonOver {f D : Nat} {F : Nat → Nat → Int32} {A : Nat → List Int32} {L : Nat → List Int64} {Q : Option Value → sm_H → Prop} {x1 : Int32} {x2 : Int32} (hh0 : ((A 68).getD 144 0).toInt < 2147483647) (K : Q (some (.int ((km_wonOver (F 67 3) (A 68) (A 87) x1 x2).1))) (hz F (uA A 87 ((km_wonOver (F 67 3) (A 68) (A 87) x1 x2).2)) L)) : wl_M f D 232 [.ref 67, .int x1, .int x2] (hz F A L) Q := by
  generalize hT : (km_wonOver (F 67 3) (A 68) (A 87) x1 x2) = T at K
  have hE : T = (if (km_isMeasure (F 67 3) x1) = 0 then ((-1), (A 87)) else (if (km_in x2 0 1) = 0 then ((-1), (A 87)) else (if x2 = 1 then ((km_wonOver_25 (F 67 3) (A 68) x1 (((A 68).getD 144 0).toInt + 1).toNat (-2) 0 (A 87)).1, (km_wonOver_25 (F 67 3) (A 68) x1 (((A 68).getD 144 0).toInt + 1).toNat (-2) 0 (A 87)).2) else (if (km_wonOver_25 (F 67 3) (A 68) x1 (((A 68).getD 144 0).toInt + 1).toNat (-2) 0 (A 87)).1 = (-2) then ((km_wonOver_25 (F 67 3) (A 68) x1 (((A 68).getD 144 0).toInt + 1).toNat (-2) 0 (A 87)).1, (km_wonOver_25 (F 67 3) (A 68) x1 (((A 68).getD 144 0).toInt + 1).toNat (-2) 0 (A 87)).2) else ((km_bits (km_wonOver_25 (F 67 3) (A 68) x1 (((A 68).getD 144 0).toInt + 1).toNat (-2) 0 (A 87)).1), (km_wonOver_25 (F 67 3) (A 68) x1 (((A 68).getD 144 0).toInt + 1).toNat (-2) 0 (A 87)).2))))) := hT.symm
  clear hT
  refine w_m (E := mm232) rfl ?_
  show wl_E f f (D - 1) mm232.2.2.2.2.2.2.2.2 0 [some (.ref 67), some (.int x1), some (.int x2), none, none] [] (hz F A L) Q
  refine w_n 2 (pc1 := 2) (ls1 := [some (.ref 67), some (.int x1), some (.int x2), none, none]) (st1 := [.int x1, .ref 67]) (hp1 := (hz F A L)) rfl ?_
  refine w_c rfl rfl (t_km_isMeasure ?_)
  show wl_E f _ _ mm232.2.2.2.2.2.2.2.2 5 [some (.ref 67), some (.int x1), some (.int x2), none, none] [.int (km_isMeasure (F 67 3) x1)] (hz F A L) _
  generalize hG179 : (km_isMeasure (F 67 3) x1) = G179 at hE ⊢
  refine w_zeq (p3 := 8) rfl rfl (fun h => ?_) (fun h => ?_)
  · have h1 : G179 = 0 := h
    rw [if_pos h1] at hE
    refine w_n 1 (pc1 := 18) (ls1 := [some (.ref 67), some (.int x1), some (.int x2), none, none]) (st1 := [.int (-1)]) (hp1 := (hz F A L)) rfl ?_
    subst T
    exact w_ri rfl (cvQ rfl (funext fun q => if k0 : q = 87 then by subst k0; exact Eq.trans (b := (A 87)) rfl rfl else by unfold uA; simp only [nb1 k0, cond_false]) rfl K)
  · have h1 : ¬ G179 = 0 := h
    rw [if_neg h1] at hE
    refine w_n 3 (pc1 := 11) (ls1 := [some (.ref 67), some (.int x1), some (.int x2), none, none]) (st1 := [.int 1, .int 0, .int x2]) (hp1 := (hz F A L)) rfl ?_
    refine w_c rfl rfl (t_km_in ?_)
    show wl_E f _ _ mm232.2.2.2.2.2.2.2.2 14 [some (.ref 67), some (.int x1), some (.int x2), none, none] [.int (km_in x2 0 1)] (hz F A L) _
    generalize hG180 : (km_in x2 0 1) = G180 at hE ⊢
    refine w_zne (p3 := 17) rfl rfl (fun h => ?_) (fun h => ?_)
    · have h2 : ¬ G180 = 0 := h
      rw [if_neg h2] at hE
      refine w_n 4 (pc1 := 25) (ls1 := [some (.ref 67), some (.int x1), some (.int x2), some (.int (-2)), some (.int 0)]) (st1 := []) (hp1 := (hz F A L)) rfl ?_
      refine t_km_wonOver_25 ((((A 68).getD 144 0).toInt + 1).toNat) (show (((A 68).getD 144 0).toInt + 1).toNat = (((A 68).getD 144 0).toInt + 1 - (0 : Int32).toInt).toNat by have e0 : (0 : Int32).toInt = 0 := rfl; first | rfl | omega) hh0 ?_
      intro r1
      show wl_E f _ _ mm232.2.2.2.2.2.2.2.2 94 [some (.ref 67), some (.int x1), some (.int x2), some (.int (km_wonOver_25 (F 67 3) (A 68) x1 (((A 68).getD 144 0).toInt + 1).toNat (-2) 0 (A 87)).1), some (.int r1)] [] (hz F (uA A 87 (km_wonOver_25 (F 67 3) (A 68) x1 (((A 68).getD 144 0).toInt + 1).toNat (-2) 0 (A 87)).2) L) _
      generalize hG191 : (km_wonOver_25 (F 67 3) (A 68) x1 (((A 68).getD 144 0).toInt + 1).toNat (-2) 0 (A 87)) = G191 at hE ⊢
      refine w_n 2 (pc1 := 96) (ls1 := [some (.ref 67), some (.int x1), some (.int x2), some (.int G191.1), some (.int r1)]) (st1 := [.int 1, .int x2]) (hp1 := (hz F (uA A 87 G191.2) L)) rfl ?_
      refine w_eq (p3 := 99) rfl rfl (fun h => ?_) (fun h => ?_)
      · have h3 : x2 = 1 := h
        rw [if_pos h3] at hE
        refine w_n 2 (pc1 := 113) (ls1 := [some (.ref 67), some (.int x1), some (.int x2), some (.int G191.1), some (.int r1)]) (st1 := [.int G191.1]) (hp1 := (hz F (uA A 87 G191.2) L)) rfl ?_
        subst T
        exact w_ri rfl (cvQ rfl rfl rfl K)
      · have h3 : ¬ x2 = 1 := h
        rw [if_neg h3] at hE
        refine w_n 2 (pc1 := 102) (ls1 := [some (.ref 67), some (.int x1), some (.int x2), some (.int G191.1), some (.int r1)]) (st1 := [.int (-2), .int G191.1]) (hp1 := (hz F (uA A 87 G191.2) L)) rfl ?_
        refine w_ne (p3 := 105) rfl rfl (fun h => ?_) (fun h => ?_)
        · have h4 : ¬ G191.1 = (-2) := h
          rw [if_neg h4] at hE
          refine w_n 1 (pc1 := 110) (ls1 := [some (.ref 67), some (.int x1), some (.int x2), some (.int G191.1), some (.int r1)]) (st1 := [.int G191.1]) (hp1 := (hz F (uA A 87 G191.2) L)) rfl ?_
          refine w_c rfl rfl (t_km_bits ?_)
          show wl_E f _ _ mm232.2.2.2.2.2.2.2.2 113 [some (.ref 67), some (.int x1), some (.int x2), some (.int G191.1), some (.int r1)] [.int (km_bits G191.1)] (hz F (uA A 87 G191.2) L) _
          generalize hG192 : (km_bits G191.1) = G192 at hE ⊢
          subst T
          exact w_ri rfl (cvQ rfl rfl rfl K)
        · have h4 : G191.1 = (-2) := h
          rw [if_pos h4] at hE
          refine w_n 2 (pc1 := 113) (ls1 := [some (.ref 67), some (.int x1), some (.int x2), some (.int G191.1), some (.int r1)]) (st1 := [.int G191.1]) (hp1 := (hz F (uA A 87 G191.2) L)) rfl ?_
          subst T
          exact w_ri rfl (cvQ rfl rfl rfl K)
    · have h2 : G180 = 0 := h
      rw [if_pos h2] at hE
      refine w_n 1 (pc1 := 18) (ls1 := [some (.ref 67), some (.int x1), some (.int x2), none, none]) (st1 := [.int (-1)]) (hp1 := (hz F A L)) rfl ?_
      subst T
      exact w_ri rfl (cvQ rfl (funext fun q => if k0 : q = 87 then by subst k0; exact Eq.trans (b := (A 87)) rfl rfl else by unfold uA; simp only [nb1 k0, cond_false]) rfl K)
noncomputable def km_copies_68_69_2 (a68 : List Int32)  : Nat → Int32 → List Int32 → List Int32
  | 0, _, a69 => a69
  | m + 1, y2, a69 => (km_copies_68_69_2 a68 m (y2 + 1) (a69.set y2.toInt.toNat (a68.getD y2.toInt.toNat 0)))
theorem t_km_copies_68_69_2 {f : Nat} {Q : Option Value → sm_H → Prop} : ∀ (m : Nat) {B D : Nat} {F : Nat → Nat → Int32} {A : Nat → List Int32} {L : Nat → List Int64} {y2 : Int32}, m = (150 - y2.toInt).toNat → (∀ q2 : Int32, wl_E f B D mm199.2.2.2.2.2.2.2.2 21 [some (.ref 68), some (.ref 69), some (.int q2)] [] (hz F (uA A 69 (km_copies_68_69_2 (A 68) m y2 (A 69))) L) Q) → wl_E f B D mm199.2.2.2.2.2.2.2.2 2 [some (.ref 68), some (.ref 69), some (.int y2)] [] (hz F A L) Q := by
  intro m
  induction m with
  | zero =>
    intro B D F A L y2 hm K
    generalize hT : (km_copies_68_69_2 (A 68) 0 y2 (A 69)) = T at K
    have hE : T = (A 69) := hT.symm
    clear hT
    refine w_n 2 (pc1 := 6) (ls1 := [some (.ref 68), some (.ref 69), some (.int y2)]) (st1 := [.int 150, .int y2]) (hp1 := (hz F A L)) rfl ?_
    refine w_ge (p3 := 9) rfl rfl (fun hb => ?_) (fun h => False.elim (by have h : y2.toInt < 150 := h; omega))
    subst T
    exact cvE rfl (funext fun q => if k0 : q = 69 then by subst k0; exact Eq.trans (b := (A 69)) rfl rfl else by unfold uA; simp only [nb1 k0, cond_false]) rfl (K _)
  | succ m ih =>
    intro B D F A L y2 hm K
    generalize hT : (km_copies_68_69_2 (A 68) (m + 1) y2 (A 69)) = T at K
    have hE : T = (km_copies_68_69_2 (A 68) m (y2 + 1) ((A 69).set y2.toInt.toNat ((A 68).getD y2.toInt.toNat 0))) := hT.symm
    clear hT
    refine w_n 2 (pc1 := 6) (ls1 := [some (.ref 68), some (.ref 69), some (.int y2)]) (st1 := [.int 150, .int y2]) (hp1 := (hz F A L)) rfl ?_
    refine w_ge (p3 := 9) rfl rfl (fun h => False.elim (by have h : 150 ≤ y2.toInt := h; omega)) (fun hb => ?_)
    refine w_n 4 (pc1 := 13) (ls1 := [some (.ref 68), some (.ref 69), some (.int y2)]) (st1 := [.int y2, .ref 68, .int y2, .ref 69]) (hp1 := (hz F A L)) rfl ?_
    refine w_al (k := 68) (l := (A 68)) rfl rfl rfl (fun ab => ?_)
    refine w_as (k := 69) (l := (A 69)) (hp1 := (hz F (uA A 69 ((A 69).set y2.toInt.toNat ((A 68).getD y2.toInt.toNat 0))) L)) rfl rfl rfl (hz_s69 _) (fun ab => ?_)
    refine w_n 2 (pc1 := 2) (ls1 := [some (.ref 68), some (.ref 69), some (.int (y2 + 1))]) (st1 := []) (hp1 := (hz F (uA A 69 ((A 69).set y2.toInt.toNat ((A 68).getD y2.toInt.toNat 0))) L)) rfl ?_
    subst T
    have hb2 := i_up (B := (150 : Int32)) hb
    have hb3 : y2.toInt < 150 := hb
    exact ih (show m = (150 - (y2 + 1).toInt).toNat by rw [hb2]; omega) (fun q2 => cvE rfl (funext fun q => if k0 : q = 69 then by subst k0; exact Eq.trans (b := (km_copies_68_69_2 (A 68) m (y2 + 1) ((A 69).set y2.toInt.toNat ((A 68).getD y2.toInt.toNat 0)))) rfl rfl else by unfold uA; simp only [nb1 k0, cond_false]) rfl (K q2))
noncomputable def km_copies_68_69 (a68 : List Int32) (a69 : List Int32) : List Int32 := (km_copies_68_69_2 a68 150 0 a69)
theorem t_km_copies_68_69 {f D : Nat} {F : Nat → Nat → Int32} {A : Nat → List Int32} {L : Nat → List Int64} {Q : Option Value → sm_H → Prop} (K : Q none (hz F (uA A 69 (km_copies_68_69 (A 68) (A 69))) L)) : wl_M f D 199 [.ref 68, .ref 69] (hz F A L) Q := by
  generalize hT : (km_copies_68_69 (A 68) (A 69)) = T at K
  have hE : T = (km_copies_68_69_2 (A 68) 150 0 (A 69)) := hT.symm
  clear hT
  refine w_m (E := mm199) rfl ?_
  show wl_E f f (D - 1) mm199.2.2.2.2.2.2.2.2 0 [some (.ref 68), some (.ref 69), none] [] (hz F A L) Q
  refine w_n 2 (pc1 := 2) (ls1 := [some (.ref 68), some (.ref 69), some (.int 0)]) (st1 := []) (hp1 := (hz F A L)) rfl ?_
  refine t_km_copies_68_69_2 150 (show (150 : Nat) = (150 - (0 : Int32).toInt).toNat by have e0 : (0 : Int32).toInt = 0 := rfl; first | rfl | omega) ?_
  intro r1
  show wl_E f _ _ mm199.2.2.2.2.2.2.2.2 21 [some (.ref 68), some (.ref 69), some (.int r1)] [] (hz F (uA A 69 (km_copies_68_69_2 (A 68) 150 0 (A 69))) L) _
  generalize hG195 : (km_copies_68_69_2 (A 68) 150 0 (A 69)) = G195 at hE ⊢
  subst T
  exact w_r rfl rfl (cvQ rfl rfl rfl K)
noncomputable def km_feelsOne_2   : Nat → Int32 → List Int32 → List Int32
  | 0, _, a84 => a84
  | m + 1, y2, a84 => (km_feelsOne_2 m (y2 + 1) (a84.set y2.toInt.toNat 0))
theorem t_km_feelsOne_2 {f : Nat} {Q : Option Value → sm_H → Prop} : ∀ (m : Nat) {B D : Nat} {F : Nat → Nat → Int32} {A : Nat → List Int32} {L : Nat → List Int64} {x1 : Int32} {y2 : Int32}, m = (8 - y2.toInt).toNat → (∀ q2 : Int32, wl_E f B D mm179.2.2.2.2.2.2.2.2 21 [some (.ref 67), some (.int x1), some (.int q2)] [] (hz F (uA A 84 (km_feelsOne_2 m y2 (A 84))) L) Q) → wl_E f B D mm179.2.2.2.2.2.2.2.2 2 [some (.ref 67), some (.int x1), some (.int y2)] [] (hz F A L) Q := by
  intro m
  induction m with
  | zero =>
    intro B D F A L x1 y2 hm K
    generalize hT : (km_feelsOne_2 0 y2 (A 84)) = T at K
    have hE : T = (A 84) := hT.symm
    clear hT
    refine w_n 2 (pc1 := 5) (ls1 := [some (.ref 67), some (.int x1), some (.int y2)]) (st1 := [.int 8, .int y2]) (hp1 := (hz F A L)) rfl ?_
    refine w_ge (p3 := 8) rfl rfl (fun hb => ?_) (fun h => False.elim (by have h : y2.toInt < 8 := h; omega))
    subst T
    exact cvE rfl (funext fun q => if k0 : q = 84 then by subst k0; exact Eq.trans (b := (A 84)) rfl rfl else by unfold uA; simp only [nb1 k0, cond_false]) rfl (K _)
  | succ m ih =>
    intro B D F A L x1 y2 hm K
    generalize hT : (km_feelsOne_2 (m + 1) y2 (A 84)) = T at K
    have hE : T = (km_feelsOne_2 m (y2 + 1) ((A 84).set y2.toInt.toNat 0)) := hT.symm
    clear hT
    refine w_n 2 (pc1 := 5) (ls1 := [some (.ref 67), some (.int x1), some (.int y2)]) (st1 := [.int 8, .int y2]) (hp1 := (hz F A L)) rfl ?_
    refine w_ge (p3 := 8) rfl rfl (fun h => False.elim (by have h : 8 ≤ y2.toInt := h; omega)) (fun hb => ?_)
    refine w_n 4 (pc1 := 14) (ls1 := [some (.ref 67), some (.int x1), some (.int y2)]) (st1 := [.int 0, .int y2, .ref 84]) (hp1 := (hz F A L)) rfl ?_
    refine w_as (k := 84) (l := (A 84)) (hp1 := (hz F (uA A 84 ((A 84).set y2.toInt.toNat 0)) L)) rfl rfl rfl (hz_s84 _) (fun ab => ?_)
    refine w_n 2 (pc1 := 2) (ls1 := [some (.ref 67), some (.int x1), some (.int (y2 + 1))]) (st1 := []) (hp1 := (hz F (uA A 84 ((A 84).set y2.toInt.toNat 0)) L)) rfl ?_
    subst T
    have hb2 := i_up (B := (8 : Int32)) hb
    have hb3 : y2.toInt < 8 := hb
    exact ih (show m = (8 - (y2 + 1).toInt).toNat by rw [hb2]; omega) (fun q2 => cvE rfl (funext fun q => if k0 : q = 84 then by subst k0; exact Eq.trans (b := (km_feelsOne_2 m (y2 + 1) ((A 84).set y2.toInt.toNat 0))) rfl rfl else by unfold uA; simp only [nb1 k0, cond_false]) rfl (K q2))
noncomputable def km_feelsOne (a68 : List Int32) (a84 : List Int32) (x1 : Int32) : List Int32 := ((((((km_feelsOne_2 8 0 a84).set 0 x1).set 4 (a68.getD (12 + x1).toInt.toNat 0)).set 5 (a68.getD (36 + x1).toInt.toNat 0)).set 6 (a68.getD (60 + x1).toInt.toNat 0)).set 7 (a68.getD 147 0))
theorem t_km_feelsOne {f D : Nat} {F : Nat → Nat → Int32} {A : Nat → List Int32} {L : Nat → List Int64} {Q : Option Value → sm_H → Prop} {x1 : Int32} (K : Q none (hz F (uA A 84 (km_feelsOne (A 68) (A 84) x1)) L)) : wl_M f D 179 [.ref 67, .int x1] (hz F A L) Q := by
  generalize hT : (km_feelsOne (A 68) (A 84) x1) = T at K
  have hE : T = ((((((km_feelsOne_2 8 0 (A 84)).set 0 x1).set 4 ((A 68).getD (12 + x1).toInt.toNat 0)).set 5 ((A 68).getD (36 + x1).toInt.toNat 0)).set 6 ((A 68).getD (60 + x1).toInt.toNat 0)).set 7 ((A 68).getD 147 0)) := hT.symm
  clear hT
  refine w_m (E := mm179) rfl ?_
  show wl_E f f (D - 1) mm179.2.2.2.2.2.2.2.2 0 [some (.ref 67), some (.int x1), none] [] (hz F A L) Q
  refine w_n 2 (pc1 := 2) (ls1 := [some (.ref 67), some (.int x1), some (.int 0)]) (st1 := []) (hp1 := (hz F A L)) rfl ?_
  refine t_km_feelsOne_2 8 (show (8 : Nat) = (8 - (0 : Int32).toInt).toNat by have e0 : (0 : Int32).toInt = 0 := rfl; first | rfl | omega) ?_
  intro r1
  show wl_E f _ _ mm179.2.2.2.2.2.2.2.2 21 [some (.ref 67), some (.int x1), some (.int r1)] [] (hz F (uA A 84 (km_feelsOne_2 8 0 (A 84))) L) _
  generalize hG197 : (km_feelsOne_2 8 0 (A 84)) = G197 at hE ⊢
  refine w_n 4 (pc1 := 27) (ls1 := [some (.ref 67), some (.int x1), some (.int r1)]) (st1 := [.int x1, .int 0, .ref 84]) (hp1 := (hz F (uA A 84 G197) L)) rfl ?_
  refine w_as (k := 84) (l := G197) (hp1 := (hz F (uA (uA A 84 G197) 84 (G197.set 0 x1)) L)) rfl rfl rfl (hz_s84 _) (fun _ => ?_)
  refine w_n 8 (pc1 := 41) (ls1 := [some (.ref 67), some (.int x1), some (.int r1)]) (st1 := [.int (12 + x1), .ref 68, .int 4, .ref 84]) (hp1 := (hz F (uA (uA A 84 G197) 84 (G197.set 0 x1)) L)) rfl ?_
  refine w_al (k := 68) (l := (A 68)) rfl rfl rfl (fun _ => ?_)
  refine w_as (k := 84) (l := (G197.set 0 x1)) (hp1 := (hz F (uA (uA (uA A 84 G197) 84 (G197.set 0 x1)) 84 ((G197.set 0 x1).set 4 ((A 68).getD (12 + x1).toInt.toNat 0))) L)) rfl rfl rfl (hz_s84 _) (fun _ => ?_)
  refine w_n 8 (pc1 := 56) (ls1 := [some (.ref 67), some (.int x1), some (.int r1)]) (st1 := [.int (36 + x1), .ref 68, .int 5, .ref 84]) (hp1 := (hz F (uA (uA (uA A 84 G197) 84 (G197.set 0 x1)) 84 ((G197.set 0 x1).set 4 ((A 68).getD (12 + x1).toInt.toNat 0))) L)) rfl ?_
  refine w_al (k := 68) (l := (A 68)) rfl rfl rfl (fun _ => ?_)
  refine w_as (k := 84) (l := ((G197.set 0 x1).set 4 ((A 68).getD (12 + x1).toInt.toNat 0))) (hp1 := (hz F (uA (uA (uA (uA A 84 G197) 84 (G197.set 0 x1)) 84 ((G197.set 0 x1).set 4 ((A 68).getD (12 + x1).toInt.toNat 0))) 84 (((G197.set 0 x1).set 4 ((A 68).getD (12 + x1).toInt.toNat 0)).set 5 ((A 68).getD (36 + x1).toInt.toNat 0))) L)) rfl rfl rfl (hz_s84 _) (fun _ => ?_)
  refine w_n 8 (pc1 := 72) (ls1 := [some (.ref 67), some (.int x1), some (.int r1)]) (st1 := [.int (60 + x1), .ref 68, .int 6, .ref 84]) (hp1 := (hz F (uA (uA (uA (uA A 84 G197) 84 (G197.set 0 x1)) 84 ((G197.set 0 x1).set 4 ((A 68).getD (12 + x1).toInt.toNat 0))) 84 (((G197.set 0 x1).set 4 ((A 68).getD (12 + x1).toInt.toNat 0)).set 5 ((A 68).getD (36 + x1).toInt.toNat 0))) L)) rfl ?_
  refine w_al (k := 68) (l := (A 68)) rfl rfl rfl (fun _ => ?_)
  refine w_as (k := 84) (l := (((G197.set 0 x1).set 4 ((A 68).getD (12 + x1).toInt.toNat 0)).set 5 ((A 68).getD (36 + x1).toInt.toNat 0))) (hp1 := (hz F (uA (uA (uA (uA (uA A 84 G197) 84 (G197.set 0 x1)) 84 ((G197.set 0 x1).set 4 ((A 68).getD (12 + x1).toInt.toNat 0))) 84 (((G197.set 0 x1).set 4 ((A 68).getD (12 + x1).toInt.toNat 0)).set 5 ((A 68).getD (36 + x1).toInt.toNat 0))) 84 ((((G197.set 0 x1).set 4 ((A 68).getD (12 + x1).toInt.toNat 0)).set 5 ((A 68).getD (36 + x1).toInt.toNat 0)).set 6 ((A 68).getD (60 + x1).toInt.toNat 0))) L)) rfl rfl rfl (hz_s84 _) (fun _ => ?_)
  refine w_n 6 (pc1 := 87) (ls1 := [some (.ref 67), some (.int x1), some (.int r1)]) (st1 := [.int 147, .ref 68, .int 7, .ref 84]) (hp1 := (hz F (uA (uA (uA (uA (uA A 84 G197) 84 (G197.set 0 x1)) 84 ((G197.set 0 x1).set 4 ((A 68).getD (12 + x1).toInt.toNat 0))) 84 (((G197.set 0 x1).set 4 ((A 68).getD (12 + x1).toInt.toNat 0)).set 5 ((A 68).getD (36 + x1).toInt.toNat 0))) 84 ((((G197.set 0 x1).set 4 ((A 68).getD (12 + x1).toInt.toNat 0)).set 5 ((A 68).getD (36 + x1).toInt.toNat 0)).set 6 ((A 68).getD (60 + x1).toInt.toNat 0))) L)) rfl ?_
  refine w_al (k := 68) (l := (A 68)) rfl rfl rfl (fun _ => ?_)
  refine w_as (k := 84) (l := ((((G197.set 0 x1).set 4 ((A 68).getD (12 + x1).toInt.toNat 0)).set 5 ((A 68).getD (36 + x1).toInt.toNat 0)).set 6 ((A 68).getD (60 + x1).toInt.toNat 0))) (hp1 := (hz F (uA (uA (uA (uA (uA (uA A 84 G197) 84 (G197.set 0 x1)) 84 ((G197.set 0 x1).set 4 ((A 68).getD (12 + x1).toInt.toNat 0))) 84 (((G197.set 0 x1).set 4 ((A 68).getD (12 + x1).toInt.toNat 0)).set 5 ((A 68).getD (36 + x1).toInt.toNat 0))) 84 ((((G197.set 0 x1).set 4 ((A 68).getD (12 + x1).toInt.toNat 0)).set 5 ((A 68).getD (36 + x1).toInt.toNat 0)).set 6 ((A 68).getD (60 + x1).toInt.toNat 0))) 84 (((((G197.set 0 x1).set 4 ((A 68).getD (12 + x1).toInt.toNat 0)).set 5 ((A 68).getD (36 + x1).toInt.toNat 0)).set 6 ((A 68).getD (60 + x1).toInt.toNat 0)).set 7 ((A 68).getD 147 0))) L)) rfl rfl rfl (hz_s84 _) (fun _ => ?_)
  subst T
  exact w_r rfl rfl (cvQ rfl (funext fun q => if k0 : q = 84 then by subst k0; exact Eq.trans (b := (((((G197.set 0 x1).set 4 ((A 68).getD (12 + x1).toInt.toNat 0)).set 5 ((A 68).getD (36 + x1).toInt.toNat 0)).set 6 ((A 68).getD (60 + x1).toInt.toNat 0)).set 7 ((A 68).getD 147 0))) rfl rfl else by unfold uA; simp only [nb1 k0, cond_false]) rfl K)
noncomputable def km_reckon (x0 : Int32) (x1 : Int32) (x2 : Int32) : Int32 := (if x0 = 2 then (x1 + x2) else (if x0 = 3 then (x1 - x2) else (if x0 = 4 then (x1 * x2) else (if x0 = 5 then (x1 / x2) else (if x0 = 6 then (x1 - x1 / x2 * x2) else (if x0 = 7 then (if x1.toInt < x2.toInt then 1 else 0) else (if x0 = 8 then (if x2.toInt < x1.toInt then 1 else 0) else (if x1 = x2 then 1 else 0))))))))
theorem t_km_reckon {f D : Nat} {F : Nat → Nat → Int32} {A : Nat → List Int32} {L : Nat → List Int64} {Q : Option Value → sm_H → Prop} {x0 : Int32} {x1 : Int32} {x2 : Int32} (K : Q (some (.int (km_reckon x0 x1 x2))) (hz F A L)) : wl_M f D 182 [.int x0, .int x1, .int x2] (hz F A L) Q := by
  generalize hT : (km_reckon x0 x1 x2) = T at K
  have hE : T = (if x0 = 2 then (x1 + x2) else (if x0 = 3 then (x1 - x2) else (if x0 = 4 then (x1 * x2) else (if x0 = 5 then (x1 / x2) else (if x0 = 6 then (x1 - x1 / x2 * x2) else (if x0 = 7 then (if x1.toInt < x2.toInt then 1 else 0) else (if x0 = 8 then (if x2.toInt < x1.toInt then 1 else 0) else (if x1 = x2 then 1 else 0)))))))) := hT.symm
  clear hT
  refine w_m (E := mm182) rfl ?_
  show wl_E f f (D - 1) mm182.2.2.2.2.2.2.2.2 0 [some (.int x0), some (.int x1), some (.int x2)] [] (hz F A L) Q
  refine w_n 1 (pc1 := 1) (ls1 := [some (.int x0), some (.int x1), some (.int x2)]) (st1 := [.int x0]) (hp1 := (hz F A L)) rfl ?_
  by_cases h : x0 = 2
  · have h1 : x0 = 2 := h
    rw [if_pos h1] at hE
    refine w_k h1 ?_
    refine w_n 1 (pc1 := 44) (ls1 := [some (.int x0), some (.int x1), some (.int x2)]) (st1 := []) (hp1 := (hz F A L)) rfl ?_
    refine w_n 3 (pc1 := 47) (ls1 := [some (.int x0), some (.int x1), some (.int x2)]) (st1 := [.int (x1 + x2)]) (hp1 := (hz F A L)) rfl ?_
    subst T
    exact w_ri rfl (cvQ rfl rfl rfl K)
  · have h1 : ¬ x0 = 2 := h
    rw [if_neg h1] at hE
    by_cases h : x0 = 3
    · have h2 : x0 = 3 := h
      rw [if_pos h2] at hE
      refine w_k h2 ?_
      refine w_n 1 (pc1 := 48) (ls1 := [some (.int x0), some (.int x1), some (.int x2)]) (st1 := []) (hp1 := (hz F A L)) rfl ?_
      refine w_n 3 (pc1 := 51) (ls1 := [some (.int x0), some (.int x1), some (.int x2)]) (st1 := [.int (x1 - x2)]) (hp1 := (hz F A L)) rfl ?_
      subst T
      exact w_ri rfl (cvQ rfl rfl rfl K)
    · have h2 : ¬ x0 = 3 := h
      rw [if_neg h2] at hE
      by_cases h : x0 = 4
      · have h3 : x0 = 4 := h
        rw [if_pos h3] at hE
        refine w_k h3 ?_
        refine w_n 1 (pc1 := 52) (ls1 := [some (.int x0), some (.int x1), some (.int x2)]) (st1 := []) (hp1 := (hz F A L)) rfl ?_
        refine w_n 3 (pc1 := 55) (ls1 := [some (.int x0), some (.int x1), some (.int x2)]) (st1 := [.int (x1 * x2)]) (hp1 := (hz F A L)) rfl ?_
        subst T
        exact w_ri rfl (cvQ rfl rfl rfl K)
      · have h3 : ¬ x0 = 4 := h
        rw [if_neg h3] at hE
        by_cases h : x0 = 5
        · have h4 : x0 = 5 := h
          rw [if_pos h4] at hE
          refine w_k h4 ?_
          refine w_n 1 (pc1 := 56) (ls1 := [some (.int x0), some (.int x1), some (.int x2)]) (st1 := []) (hp1 := (hz F A L)) rfl ?_
          refine w_n 2 (pc1 := 58) (ls1 := [some (.int x0), some (.int x1), some (.int x2)]) (st1 := [.int x2, .int x1]) (hp1 := (hz F A L)) rfl ?_
          refine w_dv rfl rfl (fun _ => ?_)
          subst T
          exact w_ri rfl (cvQ rfl rfl rfl K)
        · have h4 : ¬ x0 = 5 := h
          rw [if_neg h4] at hE
          by_cases h : x0 = 6
          · have h5 : x0 = 6 := h
            rw [if_pos h5] at hE
            refine w_k h5 ?_
            refine w_n 1 (pc1 := 60) (ls1 := [some (.int x0), some (.int x1), some (.int x2)]) (st1 := []) (hp1 := (hz F A L)) rfl ?_
            refine w_n 2 (pc1 := 62) (ls1 := [some (.int x0), some (.int x1), some (.int x2)]) (st1 := [.int x2, .int x1]) (hp1 := (hz F A L)) rfl ?_
            refine w_rm rfl rfl (fun _ => ?_)
            subst T
            exact w_ri rfl (cvQ rfl rfl rfl K)
          · have h5 : ¬ x0 = 6 := h
            rw [if_neg h5] at hE
            by_cases h : x0 = 7
            · have h6 : x0 = 7 := h
              rw [if_pos h6] at hE
              refine w_k h6 ?_
              refine w_n 1 (pc1 := 64) (ls1 := [some (.int x0), some (.int x1), some (.int x2)]) (st1 := []) (hp1 := (hz F A L)) rfl ?_
              refine w_n 2 (pc1 := 66) (ls1 := [some (.int x0), some (.int x1), some (.int x2)]) (st1 := [.int x2, .int x1]) (hp1 := (hz F A L)) rfl ?_
              refine w_ge (p3 := 69) rfl rfl (fun h => ?_) (fun h => ?_)
              · have h7 : x2.toInt ≤ x1.toInt := h
                rw [if_neg (Int.not_lt.mpr h7)] at hE
                refine w_n 1 (pc1 := 74) (ls1 := [some (.int x0), some (.int x1), some (.int x2)]) (st1 := [.int 0]) (hp1 := (hz F A L)) rfl ?_
                subst T
                exact w_ri rfl (cvQ rfl rfl rfl K)
              · have h7 : x1.toInt < x2.toInt := h
                rw [if_pos h7] at hE
                refine w_n 2 (pc1 := 74) (ls1 := [some (.int x0), some (.int x1), some (.int x2)]) (st1 := [.int 1]) (hp1 := (hz F A L)) rfl ?_
                subst T
                exact w_ri rfl (cvQ rfl rfl rfl K)
            · have h6 : ¬ x0 = 7 := h
              rw [if_neg h6] at hE
              by_cases h : x0 = 8
              · have h8 : x0 = 8 := h
                rw [if_pos h8] at hE
                refine w_k h8 ?_
                refine w_n 1 (pc1 := 75) (ls1 := [some (.int x0), some (.int x1), some (.int x2)]) (st1 := []) (hp1 := (hz F A L)) rfl ?_
                refine w_n 2 (pc1 := 77) (ls1 := [some (.int x0), some (.int x1), some (.int x2)]) (st1 := [.int x2, .int x1]) (hp1 := (hz F A L)) rfl ?_
                refine w_le (p3 := 80) rfl rfl (fun h => ?_) (fun h => ?_)
                · have h9 : x1.toInt ≤ x2.toInt := h
                  rw [if_neg (Int.not_lt.mpr h9)] at hE
                  refine w_n 1 (pc1 := 85) (ls1 := [some (.int x0), some (.int x1), some (.int x2)]) (st1 := [.int 0]) (hp1 := (hz F A L)) rfl ?_
                  subst T
                  exact w_ri rfl (cvQ rfl rfl rfl K)
                · have h9 : x2.toInt < x1.toInt := h
                  rw [if_pos h9] at hE
                  refine w_n 2 (pc1 := 85) (ls1 := [some (.int x0), some (.int x1), some (.int x2)]) (st1 := [.int 1]) (hp1 := (hz F A L)) rfl ?_
                  subst T
                  exact w_ri rfl (cvQ rfl rfl rfl K)
              · have h8 : ¬ x0 = 8 := h
                rw [if_neg h8] at hE
                have n0 : ¬ x0.toInt = 2 := fun z => h1 (Int32.toInt_inj.mp (show _ = (2 : Int32).toInt from z))
                have n1 : ¬ x0.toInt = 3 := fun z => h2 (Int32.toInt_inj.mp (show _ = (3 : Int32).toInt from z))
                have n2 : ¬ x0.toInt = 4 := fun z => h3 (Int32.toInt_inj.mp (show _ = (4 : Int32).toInt from z))
                have n3 : ¬ x0.toInt = 5 := fun z => h4 (Int32.toInt_inj.mp (show _ = (5 : Int32).toInt from z))
                have n4 : ¬ x0.toInt = 6 := fun z => h5 (Int32.toInt_inj.mp (show _ = (6 : Int32).toInt from z))
                have n5 : ¬ x0.toInt = 7 := fun z => h6 (Int32.toInt_inj.mp (show _ = (7 : Int32).toInt from z))
                have n6 : ¬ x0.toInt = 8 := fun z => h8 (Int32.toInt_inj.mp (show _ = (8 : Int32).toInt from z))
                refine w_tsw rfl (by omega) (p1 := 86) (by decide) (by decide) ?_
                refine w_n 2 (pc1 := 88) (ls1 := [some (.int x0), some (.int x1), some (.int x2)]) (st1 := [.int x2, .int x1]) (hp1 := (hz F A L)) rfl ?_
                refine w_ne (p3 := 91) rfl rfl (fun h => ?_) (fun h => ?_)
                · have h10 : ¬ x1 = x2 := h
                  rw [if_neg h10] at hE
                  refine w_n 1 (pc1 := 96) (ls1 := [some (.int x0), some (.int x1), some (.int x2)]) (st1 := [.int 0]) (hp1 := (hz F A L)) rfl ?_
                  subst T
                  exact w_ri rfl (cvQ rfl rfl rfl K)
                · have h10 : x1 = x2 := h
                  rw [if_pos h10] at hE
                  refine w_n 2 (pc1 := 96) (ls1 := [some (.int x0), some (.int x1), some (.int x2)]) (st1 := [.int 1]) (hp1 := (hz F A L)) rfl ?_
                  subst T
                  exact w_ri rfl (cvQ rfl rfl rfl K)
noncomputable def km_comesTo_16 (a78 : List Int32) (a84 : List Int32) (x2 : Int32) (x4 : Int32) : Nat → Int32 → Int32 → List Int32 → Int32 × List Int32
  | 0, _, _, a83 => (0, a83)
  | m + 1, y3, y5, a83 => (if y5.toInt < x2.toInt then (if ((a78.getD y5.toInt.toNat 0) / 1048576) = 0 then (km_comesTo_16 a78 a84 x2 x4 m (y3 + 1) (y5 + 1) (a83.set y3.toInt.toNat ((a78.getD y5.toInt.toNat 0) - (a78.getD y5.toInt.toNat 0) / 1048576 * 1048576))) else (if ((a78.getD y5.toInt.toNat 0) / 1048576) = 1 then (km_comesTo_16 a78 a84 x2 x4 m (y3 + 1) (y5 + 1) (a83.set y3.toInt.toNat (a84.getD ((a78.getD y5.toInt.toNat 0) - (a78.getD y5.toInt.toNat 0) / 1048576 * 1048576).toInt.toNat 0))) else (if ((a78.getD y5.toInt.toNat 0) / 1048576) = 10 then (km_comesTo_16 a78 a84 x2 x4 m y3 (y5 + 1) (a83.set (y3 - 1).toInt.toNat (1 - (a83.getD (y3 - 1).toInt.toNat 0)))) else (if ((a78.getD y5.toInt.toNat 0) / 1048576) = 11 then (if ((a78.getD y5.toInt.toNat 0) / 1048576) = 12 then (if (a83.getD (y3 - 1).toInt.toNat 0) = 1 then (km_comesTo_16 a78 a84 x2 x4 m y3 (x4 + ((a78.getD y5.toInt.toNat 0) - (a78.getD y5.toInt.toNat 0) / 1048576 * 1048576)) a83) else (km_comesTo_16 a78 a84 x2 x4 m (y3 - 1) (y5 + 1) a83)) else (if (a83.getD (y3 - 1).toInt.toNat 0) = 0 then (km_comesTo_16 a78 a84 x2 x4 m y3 (x4 + ((a78.getD y5.toInt.toNat 0) - (a78.getD y5.toInt.toNat 0) / 1048576 * 1048576)) a83) else (km_comesTo_16 a78 a84 x2 x4 m (y3 - 1) (y5 + 1) a83))) else (if ((a78.getD y5.toInt.toNat 0) / 1048576) = 12 then (if (a83.getD (y3 - 1).toInt.toNat 0) = 1 then (km_comesTo_16 a78 a84 x2 x4 m y3 (x4 + ((a78.getD y5.toInt.toNat 0) - (a78.getD y5.toInt.toNat 0) / 1048576 * 1048576)) a83) else (km_comesTo_16 a78 a84 x2 x4 m (y3 - 1) (y5 + 1) a83)) else (if ((a78.getD y5.toInt.toNat 0) / 1048576) = 5 then (if (a83.getD (y3 - 1).toInt.toNat 0) = 0 then (0, a83) else (km_comesTo_16 a78 a84 x2 x4 m (y3 - 1) (y5 + 1) (a83.set ((y3 - 1) - 1).toInt.toNat (km_reckon ((a78.getD y5.toInt.toNat 0) / 1048576) (a83.getD ((y3 - 1) - 1).toInt.toNat 0) (a83.getD (y3 - 1).toInt.toNat 0))))) else (if ((a78.getD y5.toInt.toNat 0) / 1048576) = 6 then (if (a83.getD (y3 - 1).toInt.toNat 0) = 0 then (0, a83) else (km_comesTo_16 a78 a84 x2 x4 m (y3 - 1) (y5 + 1) (a83.set ((y3 - 1) - 1).toInt.toNat (km_reckon ((a78.getD y5.toInt.toNat 0) / 1048576) (a83.getD ((y3 - 1) - 1).toInt.toNat 0) (a83.getD (y3 - 1).toInt.toNat 0))))) else (km_comesTo_16 a78 a84 x2 x4 m (y3 - 1) (y5 + 1) (a83.set ((y3 - 1) - 1).toInt.toNat (km_reckon ((a78.getD y5.toInt.toNat 0) / 1048576) (a83.getD ((y3 - 1) - 1).toInt.toNat 0) (a83.getD (y3 - 1).toInt.toNat 0))))))))))) else ((a83.getD 0 0), a83))
theorem t_km_comesTo_16 {f : Nat} {Q : Option Value → sm_H → Prop} : ∀ (m : Nat) (B : Nat) {D : Nat} {F : Nat → Nat → Int32} {A : Nat → List Int32} {L : Nat → List Int64} {x1 : Int32} {x2 : Int32} {y3 : Int32} {x4 : Int32} {y5 : Int32} {o6 : Option Value} {o7 : Option Value}, B ≤ m → (Q (some (.int ((km_comesTo_16 (A 78) (A 84) x2 x4 m y3 y5 (A 83)).1))) (hz F (uA A 83 ((km_comesTo_16 (A 78) (A 84) x2 x4 m y3 y5 (A 83)).2)) L)) → wl_E f B D mm181.2.2.2.2.2.2.2.2 16 [some (.ref 67), some (.int x1), some (.int x2), some (.int y3), some (.int x4), some (.int y5), o6, o7] [] (hz F A L) Q := by
  intro m
  induction m with
  | zero =>
    intro B D F A L x1 x2 y3 x4 y5 o6 o7 hm K
    rw [show B = 0 by omega]
    exact w_0
  | succ m ih =>
    intro B D F A L x1 x2 y3 x4 y5 o6 o7 hm K
    cases B with
    | zero => exact w_0
    | succ B =>
      generalize hT : (km_comesTo_16 (A 78) (A 84) x2 x4 (m + 1) y3 y5 (A 83)) = T at K
      have hE : T = (if y5.toInt < x2.toInt then (if (((A 78).getD y5.toInt.toNat 0) / 1048576) = 0 then (km_comesTo_16 (A 78) (A 84) x2 x4 m (y3 + 1) (y5 + 1) ((A 83).set y3.toInt.toNat (((A 78).getD y5.toInt.toNat 0) - ((A 78).getD y5.toInt.toNat 0) / 1048576 * 1048576))) else (if (((A 78).getD y5.toInt.toNat 0) / 1048576) = 1 then (km_comesTo_16 (A 78) (A 84) x2 x4 m (y3 + 1) (y5 + 1) ((A 83).set y3.toInt.toNat ((A 84).getD (((A 78).getD y5.toInt.toNat 0) - ((A 78).getD y5.toInt.toNat 0) / 1048576 * 1048576).toInt.toNat 0))) else (if (((A 78).getD y5.toInt.toNat 0) / 1048576) = 10 then (km_comesTo_16 (A 78) (A 84) x2 x4 m y3 (y5 + 1) ((A 83).set (y3 - 1).toInt.toNat (1 - ((A 83).getD (y3 - 1).toInt.toNat 0)))) else (if (((A 78).getD y5.toInt.toNat 0) / 1048576) = 11 then (if (((A 78).getD y5.toInt.toNat 0) / 1048576) = 12 then (if ((A 83).getD (y3 - 1).toInt.toNat 0) = 1 then (km_comesTo_16 (A 78) (A 84) x2 x4 m y3 (x4 + (((A 78).getD y5.toInt.toNat 0) - ((A 78).getD y5.toInt.toNat 0) / 1048576 * 1048576)) (A 83)) else (km_comesTo_16 (A 78) (A 84) x2 x4 m (y3 - 1) (y5 + 1) (A 83))) else (if ((A 83).getD (y3 - 1).toInt.toNat 0) = 0 then (km_comesTo_16 (A 78) (A 84) x2 x4 m y3 (x4 + (((A 78).getD y5.toInt.toNat 0) - ((A 78).getD y5.toInt.toNat 0) / 1048576 * 1048576)) (A 83)) else (km_comesTo_16 (A 78) (A 84) x2 x4 m (y3 - 1) (y5 + 1) (A 83)))) else (if (((A 78).getD y5.toInt.toNat 0) / 1048576) = 12 then (if ((A 83).getD (y3 - 1).toInt.toNat 0) = 1 then (km_comesTo_16 (A 78) (A 84) x2 x4 m y3 (x4 + (((A 78).getD y5.toInt.toNat 0) - ((A 78).getD y5.toInt.toNat 0) / 1048576 * 1048576)) (A 83)) else (km_comesTo_16 (A 78) (A 84) x2 x4 m (y3 - 1) (y5 + 1) (A 83))) else (if (((A 78).getD y5.toInt.toNat 0) / 1048576) = 5 then (if ((A 83).getD (y3 - 1).toInt.toNat 0) = 0 then (0, (A 83)) else (km_comesTo_16 (A 78) (A 84) x2 x4 m (y3 - 1) (y5 + 1) ((A 83).set ((y3 - 1) - 1).toInt.toNat (km_reckon (((A 78).getD y5.toInt.toNat 0) / 1048576) ((A 83).getD ((y3 - 1) - 1).toInt.toNat 0) ((A 83).getD (y3 - 1).toInt.toNat 0))))) else (if (((A 78).getD y5.toInt.toNat 0) / 1048576) = 6 then (if ((A 83).getD (y3 - 1).toInt.toNat 0) = 0 then (0, (A 83)) else (km_comesTo_16 (A 78) (A 84) x2 x4 m (y3 - 1) (y5 + 1) ((A 83).set ((y3 - 1) - 1).toInt.toNat (km_reckon (((A 78).getD y5.toInt.toNat 0) / 1048576) ((A 83).getD ((y3 - 1) - 1).toInt.toNat 0) ((A 83).getD (y3 - 1).toInt.toNat 0))))) else (km_comesTo_16 (A 78) (A 84) x2 x4 m (y3 - 1) (y5 + 1) ((A 83).set ((y3 - 1) - 1).toInt.toNat (km_reckon (((A 78).getD y5.toInt.toNat 0) / 1048576) ((A 83).getD ((y3 - 1) - 1).toInt.toNat 0) ((A 83).getD (y3 - 1).toInt.toNat 0))))))))))) else (((A 83).getD 0 0), (A 83))) := hT.symm
      clear hT
      refine w_n1 (pc1 := 18) (ls1 := [some (.ref 67), some (.int x1), some (.int x2), some (.int y3), some (.int x4), some (.int y5), o6, o7]) (st1 := [.int y5]) (hp1 := (hz F A L)) rfl ?_
      refine w_n 1 (pc1 := 19) (ls1 := [some (.ref 67), some (.int x1), some (.int x2), some (.int y3), some (.int x4), some (.int y5), o6, o7]) (st1 := [.int x2, .int y5]) (hp1 := (hz F A L)) rfl ?_
      refine w_ge (p3 := 22) rfl rfl (fun h => ?_) (fun h => ?_)
      · have h1 : x2.toInt ≤ y5.toInt := h
        rw [if_neg (Int.not_lt.mpr h1)] at hE
        refine w_n 3 (pc1 := 238) (ls1 := [some (.ref 67), some (.int x1), some (.int x2), some (.int y3), some (.int x4), some (.int y5), o6, o7]) (st1 := [.int 0, .ref 83]) (hp1 := (hz F A L)) rfl ?_
        refine w_al (k := 83) (l := (A 83)) rfl rfl rfl (fun _ => ?_)
        subst T
        exact w_ri rfl (cvQ rfl (funext fun q => if k0 : q = 83 then by subst k0; exact Eq.trans (b := (A 83)) rfl rfl else by unfold uA; simp only [nb1 k0, cond_false]) rfl K)
      · have h1 : y5.toInt < x2.toInt := h
        rw [if_pos h1] at hE
        refine w_n 3 (pc1 := 28) (ls1 := [some (.ref 67), some (.int x1), some (.int x2), some (.int y3), some (.int x4), some (.int y5), o6, o7]) (st1 := [.int y5, .ref 78]) (hp1 := (hz F A L)) rfl ?_
        refine w_al (k := 78) (l := (A 78)) rfl rfl rfl (fun _ => ?_)
        refine w_n 1 (pc1 := 31) (ls1 := [some (.ref 67), some (.int x1), some (.int x2), some (.int y3), some (.int x4), some (.int y5), o6, o7]) (st1 := [.int 1048576, .int ((A 78).getD y5.toInt.toNat 0)]) (hp1 := (hz F A L)) rfl ?_
        refine w_dv rfl rfl (fun _ => ?_)
        refine w_n 4 (pc1 := 40) (ls1 := [some (.ref 67), some (.int x1), some (.int x2), some (.int y3), some (.int x4), some (.int y5), some (.int (((A 78).getD y5.toInt.toNat 0) / 1048576)), o7]) (st1 := [.int y5, .ref 78]) (hp1 := (hz F A L)) rfl ?_
        refine w_al (k := 78) (l := (A 78)) rfl rfl rfl (fun _ => ?_)
        refine w_n 1 (pc1 := 43) (ls1 := [some (.ref 67), some (.int x1), some (.int x2), some (.int y3), some (.int x4), some (.int y5), some (.int (((A 78).getD y5.toInt.toNat 0) / 1048576)), o7]) (st1 := [.int 1048576, .int ((A 78).getD y5.toInt.toNat 0)]) (hp1 := (hz F A L)) rfl ?_
        refine w_rm rfl rfl (fun _ => ?_)
        refine w_n 6 (pc1 := 54) (ls1 := [some (.ref 67), some (.int x1), some (.int x2), some (.int y3), some (.int x4), some (.int (y5 + 1)), some (.int (((A 78).getD y5.toInt.toNat 0) / 1048576)), some (.int (((A 78).getD y5.toInt.toNat 0) - ((A 78).getD y5.toInt.toNat 0) / 1048576 * 1048576))]) (st1 := [.int (((A 78).getD y5.toInt.toNat 0) / 1048576)]) (hp1 := (hz F A L)) rfl ?_
        refine w_zeq (p3 := 57) rfl rfl (fun h => ?_) (fun h => ?_)
        · have h2 : (((A 78).getD y5.toInt.toNat 0) / 1048576) = 0 := h
          rw [if_pos h2] at hE
          refine w_n 4 (pc1 := 70) (ls1 := [some (.ref 67), some (.int x1), some (.int x2), some (.int y3), some (.int x4), some (.int (y5 + 1)), some (.int (((A 78).getD y5.toInt.toNat 0) / 1048576)), some (.int (((A 78).getD y5.toInt.toNat 0) - ((A 78).getD y5.toInt.toNat 0) / 1048576 * 1048576))]) (st1 := [.int (((A 78).getD y5.toInt.toNat 0) / 1048576), .int y3, .ref 83]) (hp1 := (hz F A L)) rfl ?_
          refine w_zne (p3 := 73) rfl rfl (fun h => absurd h2 h) (fun _ => ?_)
          refine w_n 2 (pc1 := 85) (ls1 := [some (.ref 67), some (.int x1), some (.int x2), some (.int y3), some (.int x4), some (.int (y5 + 1)), some (.int (((A 78).getD y5.toInt.toNat 0) / 1048576)), some (.int (((A 78).getD y5.toInt.toNat 0) - ((A 78).getD y5.toInt.toNat 0) / 1048576 * 1048576))]) (st1 := [.int (((A 78).getD y5.toInt.toNat 0) - ((A 78).getD y5.toInt.toNat 0) / 1048576 * 1048576), .int y3, .ref 83]) (hp1 := (hz F A L)) rfl ?_
          refine w_as (k := 83) (l := (A 83)) (hp1 := (hz F (uA A 83 ((A 83).set y3.toInt.toNat (((A 78).getD y5.toInt.toNat 0) - ((A 78).getD y5.toInt.toNat 0) / 1048576 * 1048576))) L)) rfl rfl rfl (hz_s83 _) (fun _ => ?_)
          refine w_n 6 (pc1 := 16) (ls1 := [some (.ref 67), some (.int x1), some (.int x2), some (.int (y3 + 1)), some (.int x4), some (.int (y5 + 1)), some (.int (((A 78).getD y5.toInt.toNat 0) / 1048576)), some (.int (((A 78).getD y5.toInt.toNat 0) - ((A 78).getD y5.toInt.toNat 0) / 1048576 * 1048576))]) (st1 := []) (hp1 := (hz F (uA A 83 ((A 83).set y3.toInt.toNat (((A 78).getD y5.toInt.toNat 0) - ((A 78).getD y5.toInt.toNat 0) / 1048576 * 1048576))) L)) rfl ?_
          subst T
          exact ih _ (by omega) (cvQ rfl (funext fun q => if k0 : q = 83 then by subst k0; exact Eq.trans (b := (km_comesTo_16 (A 78) (A 84) x2 x4 m (y3 + 1) (y5 + 1) ((A 83).set y3.toInt.toNat (((A 78).getD y5.toInt.toNat 0) - ((A 78).getD y5.toInt.toNat 0) / 1048576 * 1048576))).2) rfl rfl else by unfold uA; simp only [nb1 k0, cond_false]) rfl K)
        · have h2 : ¬ (((A 78).getD y5.toInt.toNat 0) / 1048576) = 0 := h
          rw [if_neg h2] at hE
          refine w_n 2 (pc1 := 60) (ls1 := [some (.ref 67), some (.int x1), some (.int x2), some (.int y3), some (.int x4), some (.int (y5 + 1)), some (.int (((A 78).getD y5.toInt.toNat 0) / 1048576)), some (.int (((A 78).getD y5.toInt.toNat 0) - ((A 78).getD y5.toInt.toNat 0) / 1048576 * 1048576))]) (st1 := [.int 1, .int (((A 78).getD y5.toInt.toNat 0) / 1048576)]) (hp1 := (hz F A L)) rfl ?_
          refine w_ne (p3 := 63) rfl rfl (fun h => ?_) (fun h => ?_)
          · have h3 : ¬ (((A 78).getD y5.toInt.toNat 0) / 1048576) = 1 := h
            rw [if_neg h3] at hE
            refine w_n 2 (pc1 := 97) (ls1 := [some (.ref 67), some (.int x1), some (.int x2), some (.int y3), some (.int x4), some (.int (y5 + 1)), some (.int (((A 78).getD y5.toInt.toNat 0) / 1048576)), some (.int (((A 78).getD y5.toInt.toNat 0) - ((A 78).getD y5.toInt.toNat 0) / 1048576 * 1048576))]) (st1 := [.int 10, .int (((A 78).getD y5.toInt.toNat 0) / 1048576)]) (hp1 := (hz F A L)) rfl ?_
            refine w_ne (p3 := 100) rfl rfl (fun h => ?_) (fun h => ?_)
            · have h4 : ¬ (((A 78).getD y5.toInt.toNat 0) / 1048576) = 10 := h
              rw [if_neg h4] at hE
              refine w_n 2 (pc1 := 125) (ls1 := [some (.ref 67), some (.int x1), some (.int x2), some (.int y3), some (.int x4), some (.int (y5 + 1)), some (.int (((A 78).getD y5.toInt.toNat 0) / 1048576)), some (.int (((A 78).getD y5.toInt.toNat 0) - ((A 78).getD y5.toInt.toNat 0) / 1048576 * 1048576))]) (st1 := [.int 11, .int (((A 78).getD y5.toInt.toNat 0) / 1048576)]) (hp1 := (hz F A L)) rfl ?_
              refine w_eq (p3 := 128) rfl rfl (fun h => ?_) (fun h => ?_)
              · have h5 : (((A 78).getD y5.toInt.toNat 0) / 1048576) = 11 := h
                rw [if_pos h5] at hE
                refine w_n 5 (pc1 := 142) (ls1 := [some (.ref 67), some (.int x1), some (.int x2), some (.int y3), some (.int x4), some (.int (y5 + 1)), some (.int (((A 78).getD y5.toInt.toNat 0) / 1048576)), some (.int (((A 78).getD y5.toInt.toNat 0) - ((A 78).getD y5.toInt.toNat 0) / 1048576 * 1048576))]) (st1 := [.int (y3 - 1), .ref 83]) (hp1 := (hz F A L)) rfl ?_
                refine w_al (k := 83) (l := (A 83)) rfl rfl rfl (fun _ => ?_)
                refine w_n 2 (pc1 := 147) (ls1 := [some (.ref 67), some (.int x1), some (.int x2), some (.int y3), some (.int x4), some (.int (y5 + 1)), some (.int (((A 78).getD y5.toInt.toNat 0) / 1048576)), some (.int (((A 78).getD y5.toInt.toNat 0) - ((A 78).getD y5.toInt.toNat 0) / 1048576 * 1048576))]) (st1 := [.int 12, .int (((A 78).getD y5.toInt.toNat 0) / 1048576), .int ((A 83).getD (y3 - 1).toInt.toNat 0)]) (hp1 := (hz F A L)) rfl ?_
                refine w_ne (p3 := 150) rfl rfl (fun h => ?_) (fun h => ?_)
                · have h6 : ¬ (((A 78).getD y5.toInt.toNat 0) / 1048576) = 12 := h
                  rw [if_neg h6] at hE
                  refine w_n 1 (pc1 := 155) (ls1 := [some (.ref 67), some (.int x1), some (.int x2), some (.int y3), some (.int x4), some (.int (y5 + 1)), some (.int (((A 78).getD y5.toInt.toNat 0) / 1048576)), some (.int (((A 78).getD y5.toInt.toNat 0) - ((A 78).getD y5.toInt.toNat 0) / 1048576 * 1048576))]) (st1 := [.int 0, .int ((A 83).getD (y3 - 1).toInt.toNat 0)]) (hp1 := (hz F A L)) rfl ?_
                  refine w_ne (p3 := 158) rfl rfl (fun h => ?_) (fun h => ?_)
                  · have h7 : ¬ ((A 83).getD (y3 - 1).toInt.toNat 0) = 0 := h
                    rw [if_neg h7] at hE
                    refine w_n 6 (pc1 := 16) (ls1 := [some (.ref 67), some (.int x1), some (.int x2), some (.int (y3 - 1)), some (.int x4), some (.int (y5 + 1)), some (.int (((A 78).getD y5.toInt.toNat 0) / 1048576)), some (.int (((A 78).getD y5.toInt.toNat 0) - ((A 78).getD y5.toInt.toNat 0) / 1048576 * 1048576))]) (st1 := []) (hp1 := (hz F A L)) rfl ?_
                    subst T
                    exact ih _ (by omega) (cvQ rfl (funext fun q => if k0 : q = 83 then by subst k0; exact Eq.trans (b := (km_comesTo_16 (A 78) (A 84) x2 x4 m (y3 - 1) (y5 + 1) (A 83)).2) rfl rfl else by unfold uA; simp only [nb1 k0, cond_false]) rfl K)
                  · have h7 : ((A 83).getD (y3 - 1).toInt.toNat 0) = 0 := h
                    rw [if_pos h7] at hE
                    refine w_n 6 (pc1 := 16) (ls1 := [some (.ref 67), some (.int x1), some (.int x2), some (.int y3), some (.int x4), some (.int (x4 + (((A 78).getD y5.toInt.toNat 0) - ((A 78).getD y5.toInt.toNat 0) / 1048576 * 1048576))), some (.int (((A 78).getD y5.toInt.toNat 0) / 1048576)), some (.int (((A 78).getD y5.toInt.toNat 0) - ((A 78).getD y5.toInt.toNat 0) / 1048576 * 1048576))]) (st1 := []) (hp1 := (hz F A L)) rfl ?_
                    subst T
                    exact ih _ (by omega) (cvQ rfl (funext fun q => if k0 : q = 83 then by subst k0; exact Eq.trans (b := (km_comesTo_16 (A 78) (A 84) x2 x4 m y3 (x4 + (((A 78).getD y5.toInt.toNat 0) - ((A 78).getD y5.toInt.toNat 0) / 1048576 * 1048576)) (A 83)).2) rfl rfl else by unfold uA; simp only [nb1 k0, cond_false]) rfl K)
                · have h6 : (((A 78).getD y5.toInt.toNat 0) / 1048576) = 12 := h
                  rw [if_pos h6] at hE
                  refine w_n 2 (pc1 := 155) (ls1 := [some (.ref 67), some (.int x1), some (.int x2), some (.int y3), some (.int x4), some (.int (y5 + 1)), some (.int (((A 78).getD y5.toInt.toNat 0) / 1048576)), some (.int (((A 78).getD y5.toInt.toNat 0) - ((A 78).getD y5.toInt.toNat 0) / 1048576 * 1048576))]) (st1 := [.int 1, .int ((A 83).getD (y3 - 1).toInt.toNat 0)]) (hp1 := (hz F A L)) rfl ?_
                  refine w_ne (p3 := 158) rfl rfl (fun h => ?_) (fun h => ?_)
                  · have h8 : ¬ ((A 83).getD (y3 - 1).toInt.toNat 0) = 1 := h
                    rw [if_neg h8] at hE
                    refine w_n 6 (pc1 := 16) (ls1 := [some (.ref 67), some (.int x1), some (.int x2), some (.int (y3 - 1)), some (.int x4), some (.int (y5 + 1)), some (.int (((A 78).getD y5.toInt.toNat 0) / 1048576)), some (.int (((A 78).getD y5.toInt.toNat 0) - ((A 78).getD y5.toInt.toNat 0) / 1048576 * 1048576))]) (st1 := []) (hp1 := (hz F A L)) rfl ?_
                    subst T
                    exact ih _ (by omega) (cvQ rfl (funext fun q => if k0 : q = 83 then by subst k0; exact Eq.trans (b := (km_comesTo_16 (A 78) (A 84) x2 x4 m (y3 - 1) (y5 + 1) (A 83)).2) rfl rfl else by unfold uA; simp only [nb1 k0, cond_false]) rfl K)
                  · have h8 : ((A 83).getD (y3 - 1).toInt.toNat 0) = 1 := h
                    rw [if_pos h8] at hE
                    refine w_n 6 (pc1 := 16) (ls1 := [some (.ref 67), some (.int x1), some (.int x2), some (.int y3), some (.int x4), some (.int (x4 + (((A 78).getD y5.toInt.toNat 0) - ((A 78).getD y5.toInt.toNat 0) / 1048576 * 1048576))), some (.int (((A 78).getD y5.toInt.toNat 0) / 1048576)), some (.int (((A 78).getD y5.toInt.toNat 0) - ((A 78).getD y5.toInt.toNat 0) / 1048576 * 1048576))]) (st1 := []) (hp1 := (hz F A L)) rfl ?_
                    subst T
                    exact ih _ (by omega) (cvQ rfl (funext fun q => if k0 : q = 83 then by subst k0; exact Eq.trans (b := (km_comesTo_16 (A 78) (A 84) x2 x4 m y3 (x4 + (((A 78).getD y5.toInt.toNat 0) - ((A 78).getD y5.toInt.toNat 0) / 1048576 * 1048576)) (A 83)).2) rfl rfl else by unfold uA; simp only [nb1 k0, cond_false]) rfl K)
              · have h5 : ¬ (((A 78).getD y5.toInt.toNat 0) / 1048576) = 11 := h
                rw [if_neg h5] at hE
                refine w_n 2 (pc1 := 132) (ls1 := [some (.ref 67), some (.int x1), some (.int x2), some (.int y3), some (.int x4), some (.int (y5 + 1)), some (.int (((A 78).getD y5.toInt.toNat 0) / 1048576)), some (.int (((A 78).getD y5.toInt.toNat 0) - ((A 78).getD y5.toInt.toNat 0) / 1048576 * 1048576))]) (st1 := [.int 12, .int (((A 78).getD y5.toInt.toNat 0) / 1048576)]) (hp1 := (hz F A L)) rfl ?_
                refine w_ne (p3 := 135) rfl rfl (fun h => ?_) (fun h => ?_)
                · have h9 : ¬ (((A 78).getD y5.toInt.toNat 0) / 1048576) = 12 := h
                  rw [if_neg h9] at hE
                  refine w_n 6 (pc1 := 182) (ls1 := [some (.ref 67), some (.int x1), some (.int x2), some (.int (y3 - 1)), some (.int x4), some (.int (y5 + 1)), some (.int (((A 78).getD y5.toInt.toNat 0) / 1048576)), some (.int (((A 78).getD y5.toInt.toNat 0) - ((A 78).getD y5.toInt.toNat 0) / 1048576 * 1048576))]) (st1 := [.int 5, .int (((A 78).getD y5.toInt.toNat 0) / 1048576)]) (hp1 := (hz F A L)) rfl ?_
                  refine w_eq (p3 := 185) rfl rfl (fun h => ?_) (fun h => ?_)
                  · have h10 : (((A 78).getD y5.toInt.toNat 0) / 1048576) = 5 := h
                    rw [if_pos h10] at hE
                    refine w_n 3 (pc1 := 197) (ls1 := [some (.ref 67), some (.int x1), some (.int x2), some (.int (y3 - 1)), some (.int x4), some (.int (y5 + 1)), some (.int (((A 78).getD y5.toInt.toNat 0) / 1048576)), some (.int (((A 78).getD y5.toInt.toNat 0) - ((A 78).getD y5.toInt.toNat 0) / 1048576 * 1048576))]) (st1 := [.int (y3 - 1), .ref 83]) (hp1 := (hz F A L)) rfl ?_
                    refine w_al (k := 83) (l := (A 83)) rfl rfl rfl (fun _ => ?_)
                    refine w_zne (p3 := 201) rfl rfl (fun h => ?_) (fun h => ?_)
                    · have h11 : ¬ ((A 83).getD (y3 - 1).toInt.toNat 0) = 0 := h
                      rw [if_neg h11] at hE
                      refine w_n 11 (pc1 := 219) (ls1 := [some (.ref 67), some (.int x1), some (.int x2), some (.int (y3 - 1)), some (.int x4), some (.int (y5 + 1)), some (.int (((A 78).getD y5.toInt.toNat 0) / 1048576)), some (.int (((A 78).getD y5.toInt.toNat 0) - ((A 78).getD y5.toInt.toNat 0) / 1048576 * 1048576))]) (st1 := [.int ((y3 - 1) - 1), .ref 83, .int (((A 78).getD y5.toInt.toNat 0) / 1048576), .int ((y3 - 1) - 1), .ref 83]) (hp1 := (hz F A L)) rfl ?_
                      refine w_al (k := 83) (l := (A 83)) rfl rfl rfl (fun _ => ?_)
                      refine w_n 3 (pc1 := 225) (ls1 := [some (.ref 67), some (.int x1), some (.int x2), some (.int (y3 - 1)), some (.int x4), some (.int (y5 + 1)), some (.int (((A 78).getD y5.toInt.toNat 0) / 1048576)), some (.int (((A 78).getD y5.toInt.toNat 0) - ((A 78).getD y5.toInt.toNat 0) / 1048576 * 1048576))]) (st1 := [.int (y3 - 1), .ref 83, .int ((A 83).getD ((y3 - 1) - 1).toInt.toNat 0), .int (((A 78).getD y5.toInt.toNat 0) / 1048576), .int ((y3 - 1) - 1), .ref 83]) (hp1 := (hz F A L)) rfl ?_
                      refine w_al (k := 83) (l := (A 83)) rfl rfl rfl (fun _ => ?_)
                      refine w_c rfl rfl (t_km_reckon ?_)
                      show wl_E f _ _ mm181.2.2.2.2.2.2.2.2 229 [some (.ref 67), some (.int x1), some (.int x2), some (.int (y3 - 1)), some (.int x4), some (.int (y5 + 1)), some (.int (((A 78).getD y5.toInt.toNat 0) / 1048576)), some (.int (((A 78).getD y5.toInt.toNat 0) - ((A 78).getD y5.toInt.toNat 0) / 1048576 * 1048576))] [.int (km_reckon (((A 78).getD y5.toInt.toNat 0) / 1048576) ((A 83).getD ((y3 - 1) - 1).toInt.toNat 0) ((A 83).getD (y3 - 1).toInt.toNat 0)), .int ((y3 - 1) - 1), .ref 83] (hz F A L) _
                      generalize hG199 : (km_reckon (((A 78).getD y5.toInt.toNat 0) / 1048576) ((A 83).getD ((y3 - 1) - 1).toInt.toNat 0) ((A 83).getD (y3 - 1).toInt.toNat 0)) = G199 at hE ⊢
                      refine w_as (k := 83) (l := (A 83)) (hp1 := (hz F (uA A 83 ((A 83).set ((y3 - 1) - 1).toInt.toNat G199)) L)) rfl rfl rfl (hz_s83 _) (fun _ => ?_)
                      refine w_n 1 (pc1 := 16) (ls1 := [some (.ref 67), some (.int x1), some (.int x2), some (.int (y3 - 1)), some (.int x4), some (.int (y5 + 1)), some (.int (((A 78).getD y5.toInt.toNat 0) / 1048576)), some (.int (((A 78).getD y5.toInt.toNat 0) - ((A 78).getD y5.toInt.toNat 0) / 1048576 * 1048576))]) (st1 := []) (hp1 := (hz F (uA A 83 ((A 83).set ((y3 - 1) - 1).toInt.toNat G199)) L)) rfl ?_
                      subst T
                      exact ih _ (by omega) (cvQ rfl (funext fun q => if k0 : q = 83 then by subst k0; exact Eq.trans (b := (km_comesTo_16 (A 78) (A 84) x2 x4 m (y3 - 1) (y5 + 1) ((A 83).set ((y3 - 1) - 1).toInt.toNat G199)).2) rfl rfl else by unfold uA; simp only [nb1 k0, cond_false]) rfl K)
                    · have h11 : ((A 83).getD (y3 - 1).toInt.toNat 0) = 0 := h
                      rw [if_pos h11] at hE
                      refine w_n 1 (pc1 := 202) (ls1 := [some (.ref 67), some (.int x1), some (.int x2), some (.int (y3 - 1)), some (.int x4), some (.int (y5 + 1)), some (.int (((A 78).getD y5.toInt.toNat 0) / 1048576)), some (.int (((A 78).getD y5.toInt.toNat 0) - ((A 78).getD y5.toInt.toNat 0) / 1048576 * 1048576))]) (st1 := [.int 0]) (hp1 := (hz F A L)) rfl ?_
                      subst T
                      exact w_ri rfl (cvQ rfl (funext fun q => if k0 : q = 83 then by subst k0; exact Eq.trans (b := (A 83)) rfl rfl else by unfold uA; simp only [nb1 k0, cond_false]) rfl K)
                  · have h10 : ¬ (((A 78).getD y5.toInt.toNat 0) / 1048576) = 5 := h
                    rw [if_neg h10] at hE
                    refine w_n 2 (pc1 := 189) (ls1 := [some (.ref 67), some (.int x1), some (.int x2), some (.int (y3 - 1)), some (.int x4), some (.int (y5 + 1)), some (.int (((A 78).getD y5.toInt.toNat 0) / 1048576)), some (.int (((A 78).getD y5.toInt.toNat 0) - ((A 78).getD y5.toInt.toNat 0) / 1048576 * 1048576))]) (st1 := [.int 6, .int (((A 78).getD y5.toInt.toNat 0) / 1048576)]) (hp1 := (hz F A L)) rfl ?_
                    refine w_ne (p3 := 192) rfl rfl (fun h => ?_) (fun h => ?_)
                    · have h12 : ¬ (((A 78).getD y5.toInt.toNat 0) / 1048576) = 6 := h
                      rw [if_neg h12] at hE
                      refine w_n 11 (pc1 := 219) (ls1 := [some (.ref 67), some (.int x1), some (.int x2), some (.int (y3 - 1)), some (.int x4), some (.int (y5 + 1)), some (.int (((A 78).getD y5.toInt.toNat 0) / 1048576)), some (.int (((A 78).getD y5.toInt.toNat 0) - ((A 78).getD y5.toInt.toNat 0) / 1048576 * 1048576))]) (st1 := [.int ((y3 - 1) - 1), .ref 83, .int (((A 78).getD y5.toInt.toNat 0) / 1048576), .int ((y3 - 1) - 1), .ref 83]) (hp1 := (hz F A L)) rfl ?_
                      refine w_al (k := 83) (l := (A 83)) rfl rfl rfl (fun _ => ?_)
                      refine w_n 3 (pc1 := 225) (ls1 := [some (.ref 67), some (.int x1), some (.int x2), some (.int (y3 - 1)), some (.int x4), some (.int (y5 + 1)), some (.int (((A 78).getD y5.toInt.toNat 0) / 1048576)), some (.int (((A 78).getD y5.toInt.toNat 0) - ((A 78).getD y5.toInt.toNat 0) / 1048576 * 1048576))]) (st1 := [.int (y3 - 1), .ref 83, .int ((A 83).getD ((y3 - 1) - 1).toInt.toNat 0), .int (((A 78).getD y5.toInt.toNat 0) / 1048576), .int ((y3 - 1) - 1), .ref 83]) (hp1 := (hz F A L)) rfl ?_
                      refine w_al (k := 83) (l := (A 83)) rfl rfl rfl (fun _ => ?_)
                      refine w_c rfl rfl (t_km_reckon ?_)
                      show wl_E f _ _ mm181.2.2.2.2.2.2.2.2 229 [some (.ref 67), some (.int x1), some (.int x2), some (.int (y3 - 1)), some (.int x4), some (.int (y5 + 1)), some (.int (((A 78).getD y5.toInt.toNat 0) / 1048576)), some (.int (((A 78).getD y5.toInt.toNat 0) - ((A 78).getD y5.toInt.toNat 0) / 1048576 * 1048576))] [.int (km_reckon (((A 78).getD y5.toInt.toNat 0) / 1048576) ((A 83).getD ((y3 - 1) - 1).toInt.toNat 0) ((A 83).getD (y3 - 1).toInt.toNat 0)), .int ((y3 - 1) - 1), .ref 83] (hz F A L) _
                      generalize hG200 : (km_reckon (((A 78).getD y5.toInt.toNat 0) / 1048576) ((A 83).getD ((y3 - 1) - 1).toInt.toNat 0) ((A 83).getD (y3 - 1).toInt.toNat 0)) = G200 at hE ⊢
                      refine w_as (k := 83) (l := (A 83)) (hp1 := (hz F (uA A 83 ((A 83).set ((y3 - 1) - 1).toInt.toNat G200)) L)) rfl rfl rfl (hz_s83 _) (fun _ => ?_)
                      refine w_n 1 (pc1 := 16) (ls1 := [some (.ref 67), some (.int x1), some (.int x2), some (.int (y3 - 1)), some (.int x4), some (.int (y5 + 1)), some (.int (((A 78).getD y5.toInt.toNat 0) / 1048576)), some (.int (((A 78).getD y5.toInt.toNat 0) - ((A 78).getD y5.toInt.toNat 0) / 1048576 * 1048576))]) (st1 := []) (hp1 := (hz F (uA A 83 ((A 83).set ((y3 - 1) - 1).toInt.toNat G200)) L)) rfl ?_
                      subst T
                      exact ih _ (by omega) (cvQ rfl (funext fun q => if k0 : q = 83 then by subst k0; exact Eq.trans (b := (km_comesTo_16 (A 78) (A 84) x2 x4 m (y3 - 1) (y5 + 1) ((A 83).set ((y3 - 1) - 1).toInt.toNat G200)).2) rfl rfl else by unfold uA; simp only [nb1 k0, cond_false]) rfl K)
                    · have h12 : (((A 78).getD y5.toInt.toNat 0) / 1048576) = 6 := h
                      rw [if_pos h12] at hE
                      refine w_n 3 (pc1 := 197) (ls1 := [some (.ref 67), some (.int x1), some (.int x2), some (.int (y3 - 1)), some (.int x4), some (.int (y5 + 1)), some (.int (((A 78).getD y5.toInt.toNat 0) / 1048576)), some (.int (((A 78).getD y5.toInt.toNat 0) - ((A 78).getD y5.toInt.toNat 0) / 1048576 * 1048576))]) (st1 := [.int (y3 - 1), .ref 83]) (hp1 := (hz F A L)) rfl ?_
                      refine w_al (k := 83) (l := (A 83)) rfl rfl rfl (fun _ => ?_)
                      refine w_zne (p3 := 201) rfl rfl (fun h => ?_) (fun h => ?_)
                      · have h13 : ¬ ((A 83).getD (y3 - 1).toInt.toNat 0) = 0 := h
                        rw [if_neg h13] at hE
                        refine w_n 11 (pc1 := 219) (ls1 := [some (.ref 67), some (.int x1), some (.int x2), some (.int (y3 - 1)), some (.int x4), some (.int (y5 + 1)), some (.int (((A 78).getD y5.toInt.toNat 0) / 1048576)), some (.int (((A 78).getD y5.toInt.toNat 0) - ((A 78).getD y5.toInt.toNat 0) / 1048576 * 1048576))]) (st1 := [.int ((y3 - 1) - 1), .ref 83, .int (((A 78).getD y5.toInt.toNat 0) / 1048576), .int ((y3 - 1) - 1), .ref 83]) (hp1 := (hz F A L)) rfl ?_
                        refine w_al (k := 83) (l := (A 83)) rfl rfl rfl (fun _ => ?_)
                        refine w_n 3 (pc1 := 225) (ls1 := [some (.ref 67), some (.int x1), some (.int x2), some (.int (y3 - 1)), some (.int x4), some (.int (y5 + 1)), some (.int (((A 78).getD y5.toInt.toNat 0) / 1048576)), some (.int (((A 78).getD y5.toInt.toNat 0) - ((A 78).getD y5.toInt.toNat 0) / 1048576 * 1048576))]) (st1 := [.int (y3 - 1), .ref 83, .int ((A 83).getD ((y3 - 1) - 1).toInt.toNat 0), .int (((A 78).getD y5.toInt.toNat 0) / 1048576), .int ((y3 - 1) - 1), .ref 83]) (hp1 := (hz F A L)) rfl ?_
                        refine w_al (k := 83) (l := (A 83)) rfl rfl rfl (fun _ => ?_)
                        refine w_c rfl rfl (t_km_reckon ?_)
                        show wl_E f _ _ mm181.2.2.2.2.2.2.2.2 229 [some (.ref 67), some (.int x1), some (.int x2), some (.int (y3 - 1)), some (.int x4), some (.int (y5 + 1)), some (.int (((A 78).getD y5.toInt.toNat 0) / 1048576)), some (.int (((A 78).getD y5.toInt.toNat 0) - ((A 78).getD y5.toInt.toNat 0) / 1048576 * 1048576))] [.int (km_reckon (((A 78).getD y5.toInt.toNat 0) / 1048576) ((A 83).getD ((y3 - 1) - 1).toInt.toNat 0) ((A 83).getD (y3 - 1).toInt.toNat 0)), .int ((y3 - 1) - 1), .ref 83] (hz F A L) _
                        generalize hG201 : (km_reckon (((A 78).getD y5.toInt.toNat 0) / 1048576) ((A 83).getD ((y3 - 1) - 1).toInt.toNat 0) ((A 83).getD (y3 - 1).toInt.toNat 0)) = G201 at hE ⊢
                        refine w_as (k := 83) (l := (A 83)) (hp1 := (hz F (uA A 83 ((A 83).set ((y3 - 1) - 1).toInt.toNat G201)) L)) rfl rfl rfl (hz_s83 _) (fun _ => ?_)
                        refine w_n 1 (pc1 := 16) (ls1 := [some (.ref 67), some (.int x1), some (.int x2), some (.int (y3 - 1)), some (.int x4), some (.int (y5 + 1)), some (.int (((A 78).getD y5.toInt.toNat 0) / 1048576)), some (.int (((A 78).getD y5.toInt.toNat 0) - ((A 78).getD y5.toInt.toNat 0) / 1048576 * 1048576))]) (st1 := []) (hp1 := (hz F (uA A 83 ((A 83).set ((y3 - 1) - 1).toInt.toNat G201)) L)) rfl ?_
                        subst T
                        exact ih _ (by omega) (cvQ rfl (funext fun q => if k0 : q = 83 then by subst k0; exact Eq.trans (b := (km_comesTo_16 (A 78) (A 84) x2 x4 m (y3 - 1) (y5 + 1) ((A 83).set ((y3 - 1) - 1).toInt.toNat G201)).2) rfl rfl else by unfold uA; simp only [nb1 k0, cond_false]) rfl K)
                      · have h13 : ((A 83).getD (y3 - 1).toInt.toNat 0) = 0 := h
                        rw [if_pos h13] at hE
                        refine w_n 1 (pc1 := 202) (ls1 := [some (.ref 67), some (.int x1), some (.int x2), some (.int (y3 - 1)), some (.int x4), some (.int (y5 + 1)), some (.int (((A 78).getD y5.toInt.toNat 0) / 1048576)), some (.int (((A 78).getD y5.toInt.toNat 0) - ((A 78).getD y5.toInt.toNat 0) / 1048576 * 1048576))]) (st1 := [.int 0]) (hp1 := (hz F A L)) rfl ?_
                        subst T
                        exact w_ri rfl (cvQ rfl (funext fun q => if k0 : q = 83 then by subst k0; exact Eq.trans (b := (A 83)) rfl rfl else by unfold uA; simp only [nb1 k0, cond_false]) rfl K)
                · have h9 : (((A 78).getD y5.toInt.toNat 0) / 1048576) = 12 := h
                  rw [if_pos h9] at hE
                  refine w_n 5 (pc1 := 142) (ls1 := [some (.ref 67), some (.int x1), some (.int x2), some (.int y3), some (.int x4), some (.int (y5 + 1)), some (.int (((A 78).getD y5.toInt.toNat 0) / 1048576)), some (.int (((A 78).getD y5.toInt.toNat 0) - ((A 78).getD y5.toInt.toNat 0) / 1048576 * 1048576))]) (st1 := [.int (y3 - 1), .ref 83]) (hp1 := (hz F A L)) rfl ?_
                  refine w_al (k := 83) (l := (A 83)) rfl rfl rfl (fun _ => ?_)
                  refine w_n 2 (pc1 := 147) (ls1 := [some (.ref 67), some (.int x1), some (.int x2), some (.int y3), some (.int x4), some (.int (y5 + 1)), some (.int (((A 78).getD y5.toInt.toNat 0) / 1048576)), some (.int (((A 78).getD y5.toInt.toNat 0) - ((A 78).getD y5.toInt.toNat 0) / 1048576 * 1048576))]) (st1 := [.int 12, .int (((A 78).getD y5.toInt.toNat 0) / 1048576), .int ((A 83).getD (y3 - 1).toInt.toNat 0)]) (hp1 := (hz F A L)) rfl ?_
                  refine w_ne (p3 := 150) rfl rfl (fun h => absurd h9 h) (fun _ => ?_)
                  refine w_n 2 (pc1 := 155) (ls1 := [some (.ref 67), some (.int x1), some (.int x2), some (.int y3), some (.int x4), some (.int (y5 + 1)), some (.int (((A 78).getD y5.toInt.toNat 0) / 1048576)), some (.int (((A 78).getD y5.toInt.toNat 0) - ((A 78).getD y5.toInt.toNat 0) / 1048576 * 1048576))]) (st1 := [.int 1, .int ((A 83).getD (y3 - 1).toInt.toNat 0)]) (hp1 := (hz F A L)) rfl ?_
                  refine w_ne (p3 := 158) rfl rfl (fun h => ?_) (fun h => ?_)
                  · have h14 : ¬ ((A 83).getD (y3 - 1).toInt.toNat 0) = 1 := h
                    rw [if_neg h14] at hE
                    refine w_n 6 (pc1 := 16) (ls1 := [some (.ref 67), some (.int x1), some (.int x2), some (.int (y3 - 1)), some (.int x4), some (.int (y5 + 1)), some (.int (((A 78).getD y5.toInt.toNat 0) / 1048576)), some (.int (((A 78).getD y5.toInt.toNat 0) - ((A 78).getD y5.toInt.toNat 0) / 1048576 * 1048576))]) (st1 := []) (hp1 := (hz F A L)) rfl ?_
                    subst T
                    exact ih _ (by omega) (cvQ rfl (funext fun q => if k0 : q = 83 then by subst k0; exact Eq.trans (b := (km_comesTo_16 (A 78) (A 84) x2 x4 m (y3 - 1) (y5 + 1) (A 83)).2) rfl rfl else by unfold uA; simp only [nb1 k0, cond_false]) rfl K)
                  · have h14 : ((A 83).getD (y3 - 1).toInt.toNat 0) = 1 := h
                    rw [if_pos h14] at hE
                    refine w_n 6 (pc1 := 16) (ls1 := [some (.ref 67), some (.int x1), some (.int x2), some (.int y3), some (.int x4), some (.int (x4 + (((A 78).getD y5.toInt.toNat 0) - ((A 78).getD y5.toInt.toNat 0) / 1048576 * 1048576))), some (.int (((A 78).getD y5.toInt.toNat 0) / 1048576)), some (.int (((A 78).getD y5.toInt.toNat 0) - ((A 78).getD y5.toInt.toNat 0) / 1048576 * 1048576))]) (st1 := []) (hp1 := (hz F A L)) rfl ?_
                    subst T
                    exact ih _ (by omega) (cvQ rfl (funext fun q => if k0 : q = 83 then by subst k0; exact Eq.trans (b := (km_comesTo_16 (A 78) (A 84) x2 x4 m y3 (x4 + (((A 78).getD y5.toInt.toNat 0) - ((A 78).getD y5.toInt.toNat 0) / 1048576 * 1048576)) (A 83)).2) rfl rfl else by unfold uA; simp only [nb1 k0, cond_false]) rfl K)
            · have h4 : (((A 78).getD y5.toInt.toNat 0) / 1048576) = 10 := h
              rw [if_pos h4] at hE
              refine w_n 11 (pc1 := 115) (ls1 := [some (.ref 67), some (.int x1), some (.int x2), some (.int y3), some (.int x4), some (.int (y5 + 1)), some (.int (((A 78).getD y5.toInt.toNat 0) / 1048576)), some (.int (((A 78).getD y5.toInt.toNat 0) - ((A 78).getD y5.toInt.toNat 0) / 1048576 * 1048576))]) (st1 := [.int (y3 - 1), .ref 83, .int 1, .int (y3 - 1), .ref 83]) (hp1 := (hz F A L)) rfl ?_
              refine w_al (k := 83) (l := (A 83)) rfl rfl rfl (fun _ => ?_)
              refine w_n 1 (pc1 := 117) (ls1 := [some (.ref 67), some (.int x1), some (.int x2), some (.int y3), some (.int x4), some (.int (y5 + 1)), some (.int (((A 78).getD y5.toInt.toNat 0) / 1048576)), some (.int (((A 78).getD y5.toInt.toNat 0) - ((A 78).getD y5.toInt.toNat 0) / 1048576 * 1048576))]) (st1 := [.int (1 - ((A 83).getD (y3 - 1).toInt.toNat 0)), .int (y3 - 1), .ref 83]) (hp1 := (hz F A L)) rfl ?_
              refine w_as (k := 83) (l := (A 83)) (hp1 := (hz F (uA A 83 ((A 83).set (y3 - 1).toInt.toNat (1 - ((A 83).getD (y3 - 1).toInt.toNat 0)))) L)) rfl rfl rfl (hz_s83 _) (fun _ => ?_)
              refine w_n 2 (pc1 := 16) (ls1 := [some (.ref 67), some (.int x1), some (.int x2), some (.int y3), some (.int x4), some (.int (y5 + 1)), some (.int (((A 78).getD y5.toInt.toNat 0) / 1048576)), some (.int (((A 78).getD y5.toInt.toNat 0) - ((A 78).getD y5.toInt.toNat 0) / 1048576 * 1048576))]) (st1 := []) (hp1 := (hz F (uA A 83 ((A 83).set (y3 - 1).toInt.toNat (1 - ((A 83).getD (y3 - 1).toInt.toNat 0)))) L)) rfl ?_
              subst T
              exact ih _ (by omega) (cvQ rfl (funext fun q => if k0 : q = 83 then by subst k0; exact Eq.trans (b := (km_comesTo_16 (A 78) (A 84) x2 x4 m y3 (y5 + 1) ((A 83).set (y3 - 1).toInt.toNat (1 - ((A 83).getD (y3 - 1).toInt.toNat 0)))).2) rfl rfl else by unfold uA; simp only [nb1 k0, cond_false]) rfl K)
          · have h3 : (((A 78).getD y5.toInt.toNat 0) / 1048576) = 1 := h
            rw [if_pos h3] at hE
            refine w_n 4 (pc1 := 70) (ls1 := [some (.ref 67), some (.int x1), some (.int x2), some (.int y3), some (.int x4), some (.int (y5 + 1)), some (.int (((A 78).getD y5.toInt.toNat 0) / 1048576)), some (.int (((A 78).getD y5.toInt.toNat 0) - ((A 78).getD y5.toInt.toNat 0) / 1048576 * 1048576))]) (st1 := [.int (((A 78).getD y5.toInt.toNat 0) / 1048576), .int y3, .ref 83]) (hp1 := (hz F A L)) rfl ?_
            refine w_zne (p3 := 73) rfl rfl (fun _ => ?_) (fun h => absurd h h2)
            refine w_n 3 (pc1 := 84) (ls1 := [some (.ref 67), some (.int x1), some (.int x2), some (.int y3), some (.int x4), some (.int (y5 + 1)), some (.int (((A 78).getD y5.toInt.toNat 0) / 1048576)), some (.int (((A 78).getD y5.toInt.toNat 0) - ((A 78).getD y5.toInt.toNat 0) / 1048576 * 1048576))]) (st1 := [.int (((A 78).getD y5.toInt.toNat 0) - ((A 78).getD y5.toInt.toNat 0) / 1048576 * 1048576), .ref 84, .int y3, .ref 83]) (hp1 := (hz F A L)) rfl ?_
            refine w_al (k := 84) (l := (A 84)) rfl rfl rfl (fun _ => ?_)
            refine w_as (k := 83) (l := (A 83)) (hp1 := (hz F (uA A 83 ((A 83).set y3.toInt.toNat ((A 84).getD (((A 78).getD y5.toInt.toNat 0) - ((A 78).getD y5.toInt.toNat 0) / 1048576 * 1048576).toInt.toNat 0))) L)) rfl rfl rfl (hz_s83 _) (fun _ => ?_)
            refine w_n 6 (pc1 := 16) (ls1 := [some (.ref 67), some (.int x1), some (.int x2), some (.int (y3 + 1)), some (.int x4), some (.int (y5 + 1)), some (.int (((A 78).getD y5.toInt.toNat 0) / 1048576)), some (.int (((A 78).getD y5.toInt.toNat 0) - ((A 78).getD y5.toInt.toNat 0) / 1048576 * 1048576))]) (st1 := []) (hp1 := (hz F (uA A 83 ((A 83).set y3.toInt.toNat ((A 84).getD (((A 78).getD y5.toInt.toNat 0) - ((A 78).getD y5.toInt.toNat 0) / 1048576 * 1048576).toInt.toNat 0))) L)) rfl ?_
            subst T
            exact ih _ (by omega) (cvQ rfl (funext fun q => if k0 : q = 83 then by subst k0; exact Eq.trans (b := (km_comesTo_16 (A 78) (A 84) x2 x4 m (y3 + 1) (y5 + 1) ((A 83).set y3.toInt.toNat ((A 84).getD (((A 78).getD y5.toInt.toNat 0) - ((A 78).getD y5.toInt.toNat 0) / 1048576 * 1048576).toInt.toNat 0))).2) rfl rfl else by unfold uA; simp only [nb1 k0, cond_false]) rfl K)
