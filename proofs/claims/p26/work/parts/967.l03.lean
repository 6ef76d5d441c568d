/-! lifts, printed by genlift.py: 3 -/
noncomputable def kv_leastWinningSets_9 (f3_1 : Int32) (a6 : List Int32)  : Nat → Int32 → Int32 → List Int32 → Int32 × List Int32
  | 0, y1, _, a40 => (y1, a40)
  | m + 1, y1, y2, a40 => (kv_leastWinningSets_9 f3_1 a6 m (kv_leastWinningSets_15 f3_1 a6 y2 12 y1 0 a40).1 (y2 + (-1)) (kv_leastWinningSets_15 f3_1 a6 y2 12 y1 0 a40).2)
theorem t_kv_leastWinningSets_9 {f : Nat} {Q : Option Value → sm_H → Prop} : ∀ (m : Nat) {B D : Nat} {F : Nat → Nat → Int32} {A : Nat → List Int32} {L : Nat → List Int64} {y1 : Int32} {y2 : Int32} {o3 : Option Value}, m = (y2.toInt - 0).toNat → (∀ q2 : Int32, ∀ q3 : Option Value, wl_E f B D mm108.2.2.2.2.2.2.2.2 73 [some (.ref 30), some (.int ((kv_leastWinningSets_9 (F 3 1) (A 6) m y1 y2 (A 40)).1)), some (.int q2), q3] [] (hz F (uA A 40 ((kv_leastWinningSets_9 (F 3 1) (A 6) m y1 y2 (A 40)).2)) L) Q) → wl_E f B D mm108.2.2.2.2.2.2.2.2 9 [some (.ref 30), some (.int y1), some (.int y2), o3] [] (hz F A L) Q := by
  intro m
  induction m with
  | zero =>
    intro B D F A L y1 y2 o3 hm K
    generalize hT : (kv_leastWinningSets_9 (F 3 1) (A 6) 0 y1 y2 (A 40)) = T at K
    have hE : T = (y1, (A 40)) := hT.symm
    clear hT
    refine w_n 1 (pc1 := 10) (ls1 := [some (.ref 30), some (.int y1), some (.int y2), o3]) (st1 := [.int y2]) (hp1 := (hz F A L)) rfl ?_
    refine w_zle (p3 := 13) rfl rfl (fun hb => ?_) (fun h => False.elim (by have h : 0 < y2.toInt := h; omega))
    subst T
    exact cvE rfl (funext fun q => if k0 : q = 40 then by subst k0; exact Eq.trans (b := (A 40)) rfl rfl else by unfold uA; simp only [nb1 k0, cond_false]) rfl (K _ _)
  | succ m ih =>
    intro B D F A L y1 y2 o3 hm K
    generalize hT : (kv_leastWinningSets_9 (F 3 1) (A 6) (m + 1) y1 y2 (A 40)) = T at K
    have hE : T = (kv_leastWinningSets_9 (F 3 1) (A 6) m (kv_leastWinningSets_15 (F 3 1) (A 6) y2 12 y1 0 (A 40)).1 (y2 + (-1)) (kv_leastWinningSets_15 (F 3 1) (A 6) y2 12 y1 0 (A 40)).2) := hT.symm
    clear hT
    refine w_n 1 (pc1 := 10) (ls1 := [some (.ref 30), some (.int y1), some (.int y2), o3]) (st1 := [.int y2]) (hp1 := (hz F A L)) rfl ?_
    refine w_zle (p3 := 13) rfl rfl (fun h => False.elim (by have h : y2.toInt ≤ 0 := h; omega)) (fun hb => ?_)
    refine w_n 2 (pc1 := 15) (ls1 := [some (.ref 30), some (.int y1), some (.int y2), some (.int 0)]) (st1 := []) (hp1 := (hz F A L)) rfl ?_
    refine t_kv_leastWinningSets_15 12 (show (12 : Nat) = (12 - (0 : Int32).toInt).toNat by have e0 : (0 : Int32).toInt = 0 := rfl; first | rfl | omega) ?_
    intro r1
    show wl_E f _ _ mm108.2.2.2.2.2.2.2.2 67 [some (.ref 30), some (.int (kv_leastWinningSets_15 (F 3 1) (A 6) y2 12 y1 0 (A 40)).1), some (.int y2), some (.int r1)] [] (hz F (uA A 40 (kv_leastWinningSets_15 (F 3 1) (A 6) y2 12 y1 0 (A 40)).2) L) _
    generalize hG68 : (kv_leastWinningSets_15 (F 3 1) (A 6) y2 12 y1 0 (A 40)) = G68 at hE ⊢
    refine w_n 2 (pc1 := 9) (ls1 := [some (.ref 30), some (.int G68.1), some (.int (y2 + (-1))), some (.int r1)]) (st1 := []) (hp1 := (hz F (uA A 40 G68.2) L)) rfl ?_
    subst T
    have hb2 := i_dn2 (B := (0 : Int32)) hb
    have hb3 : 0 < y2.toInt := hb
    exact ih (show m = ((y2 + (-1)).toInt - 0).toNat by rw [hb2]; omega) (fun q2 q3 => cvE rfl (funext fun q => if k0 : q = 40 then by subst k0; exact Eq.trans (b := (kv_leastWinningSets_9 (F 3 1) (A 6) m G68.1 (y2 + (-1)) G68.2).2) rfl rfl else by unfold uA; simp only [nb1 k0, cond_false]) rfl (K q2 q3))
noncomputable def kv_leastWinningSets (f3_1 : Int32) (a6 : List Int32) (a40 : List Int32) : Int32 × List Int32 := ((kv_leastWinningSets_9 f3_1 a6 20 0 20 (kv_beginSets a40)).1, (kv_leastWinningSets_9 f3_1 a6 20 0 20 (kv_beginSets a40)).2)
theorem t_kv_leastWinningSets {f D : Nat} {F : Nat → Nat → Int32} {A : Nat → List Int32} {L : Nat → List Int64} {Q : Option Value → sm_H → Prop} (K : Q (some (.int ((kv_leastWinningSets (F 3 1) (A 6) (A 40)).1))) (hz F (uA A 40 ((kv_leastWinningSets (F 3 1) (A 6) (A 40)).2)) L)) : wl_M f D 108 [.ref 30] (hz F A L) Q := by
  generalize hT : (kv_leastWinningSets (F 3 1) (A 6) (A 40)) = T at K
  have hE : T = ((kv_leastWinningSets_9 (F 3 1) (A 6) 20 0 20 (kv_beginSets (A 40))).1, (kv_leastWinningSets_9 (F 3 1) (A 6) 20 0 20 (kv_beginSets (A 40))).2) := hT.symm
  clear hT
  refine w_m (E := mm108) rfl ?_
  show wl_E f f (D - 1) mm108.2.2.2.2.2.2.2.2 0 [some (.ref 30), none, none, none] [] (hz F A L) Q
  refine w_n 1 (pc1 := 1) (ls1 := [some (.ref 30), none, none, none]) (st1 := [.ref 30]) (hp1 := (hz F A L)) rfl ?_
  refine w_c rfl rfl (t_kv_beginSets ?_)
  show wl_E f _ _ mm108.2.2.2.2.2.2.2.2 4 [some (.ref 30), none, none, none] [] (hz F (uA A 40 (kv_beginSets (A 40))) L) _
  generalize hG64 : (kv_beginSets (A 40)) = G64 at hE ⊢
  refine w_n 4 (pc1 := 9) (ls1 := [some (.ref 30), some (.int 0), some (.int 20), none]) (st1 := []) (hp1 := (hz F (uA A 40 G64) L)) rfl ?_
  refine t_kv_leastWinningSets_9 20 (show (20 : Nat) = ((20 : Int32).toInt - 0).toNat by have e0 : (20 : Int32).toInt = 20 := rfl; first | rfl | omega) ?_
  intro r1 r2
  show wl_E f _ _ mm108.2.2.2.2.2.2.2.2 73 [some (.ref 30), some (.int (kv_leastWinningSets_9 (F 3 1) (A 6) 20 0 20 G64).1), some (.int r1), r2] [] (hz F (uA (uA A 40 G64) 40 (kv_leastWinningSets_9 (F 3 1) (A 6) 20 0 20 G64).2) L) _
  generalize hG69 : (kv_leastWinningSets_9 (F 3 1) (A 6) 20 0 20 G64) = G69 at hE ⊢
  refine w_n 1 (pc1 := 74) (ls1 := [some (.ref 30), some (.int G69.1), some (.int r1), r2]) (st1 := [.int G69.1]) (hp1 := (hz F (uA (uA A 40 G64) 40 G69.2) L)) rfl ?_
  subst T
  exact w_ri rfl (cvQ rfl (funext fun q => if k0 : q = 40 then by subst k0; exact Eq.trans (b := G69.2) rfl rfl else by unfold uA; simp only [nb1 k0, cond_false]) rfl K)
noncomputable def kv_winningSets_6 (f3_1 : Int32) (a6 : List Int32)  : Nat → Int32 → List Int32 → List Int32
  | 0, _, a40 => a40
  | m + 1, y1, a40 => (if (kt_isTold f3_1 y1) = 0 then (kv_winningSets_6 f3_1 a6 m (y1 + 1) a40) else (kv_winningSets_6 f3_1 a6 m (y1 + 1) (kv_joinSets a40 (a6.getD y1.toInt.toNat 0))))
theorem t_kv_winningSets_6 {f : Nat} {Q : Option Value → sm_H → Prop} : ∀ (m : Nat) {B D : Nat} {F : Nat → Nat → Int32} {A : Nat → List Int32} {L : Nat → List Int64} {y1 : Int32} {o2 : Option Value} {o3 : Option Value}, m = (12 - y1.toInt).toNat → (∀ q1 : Int32, wl_E f B D mm104.2.2.2.2.2.2.2.2 42 [some (.ref 30), some (.int q1), o2, o3] [] (hz F (uA A 40 (kv_winningSets_6 (F 3 1) (A 6) m y1 (A 40))) L) Q) → wl_E f B D mm104.2.2.2.2.2.2.2.2 6 [some (.ref 30), some (.int y1), o2, o3] [] (hz F A L) Q := by
  intro m
  induction m with
  | zero =>
    intro B D F A L y1 o2 o3 hm K
    generalize hT : (kv_winningSets_6 (F 3 1) (A 6) 0 y1 (A 40)) = T at K
    have hE : T = (A 40) := hT.symm
    clear hT
    refine w_n 2 (pc1 := 9) (ls1 := [some (.ref 30), some (.int y1), o2, o3]) (st1 := [.int 12, .int y1]) (hp1 := (hz F A L)) rfl ?_
    refine w_ge (p3 := 12) rfl rfl (fun hb => ?_) (fun h => False.elim (by have h : y1.toInt < 12 := h; omega))
    subst T
    exact cvE rfl (funext fun q => if k0 : q = 40 then by subst k0; exact Eq.trans (b := (A 40)) rfl rfl else by unfold uA; simp only [nb1 k0, cond_false]) rfl (K _)
  | succ m ih =>
    intro B D F A L y1 o2 o3 hm K
    generalize hT : (kv_winningSets_6 (F 3 1) (A 6) (m + 1) y1 (A 40)) = T at K
    have hE : T = (if (kt_isTold (F 3 1) y1) = 0 then (kv_winningSets_6 (F 3 1) (A 6) m (y1 + 1) (A 40)) else (kv_winningSets_6 (F 3 1) (A 6) m (y1 + 1) (kv_joinSets (A 40) ((A 6).getD y1.toInt.toNat 0)))) := hT.symm
    clear hT
    refine w_n 2 (pc1 := 9) (ls1 := [some (.ref 30), some (.int y1), o2, o3]) (st1 := [.int 12, .int y1]) (hp1 := (hz F A L)) rfl ?_
    refine w_ge (p3 := 12) rfl rfl (fun h => False.elim (by have h : 12 ≤ y1.toInt := h; omega)) (fun hb => ?_)
    refine w_n 3 (pc1 := 17) (ls1 := [some (.ref 30), some (.int y1), o2, o3]) (st1 := [.int y1, .ref 3]) (hp1 := (hz F A L)) rfl ?_
    refine w_c rfl rfl (t_kt_isTold ?_)
    show wl_E f _ _ mm104.2.2.2.2.2.2.2.2 20 [some (.ref 30), some (.int y1), o2, o3] [.int (kt_isTold (F 3 1) y1)] (hz F A L) _
    generalize hG72 : (kt_isTold (F 3 1) y1) = G72 at hE ⊢
    refine w_zeq (p3 := 23) rfl rfl (fun h => ?_) (fun h => ?_)
    · have h1 : G72 = 0 := h
      rw [if_pos h1] at hE
      refine w_n 2 (pc1 := 6) (ls1 := [some (.ref 30), some (.int (y1 + 1)), o2, o3]) (st1 := []) (hp1 := (hz F A L)) rfl ?_
      subst T
      have hb2 := i_up (B := (12 : Int32)) hb
      have hb3 : y1.toInt < 12 := hb
      exact ih (show m = (12 - (y1 + 1).toInt).toNat by rw [hb2]; omega) (fun q1 => cvE rfl (funext fun q => if k0 : q = 40 then by subst k0; exact Eq.trans (b := (kv_winningSets_6 (F 3 1) (A 6) m (y1 + 1) (A 40))) rfl rfl else by unfold uA; simp only [nb1 k0, cond_false]) rfl (K q1))
    · have h1 : ¬ G72 = 0 := h
      rw [if_neg h1] at hE
      refine w_n 5 (pc1 := 32) (ls1 := [some (.ref 30), some (.int y1), o2, o3]) (st1 := [.int y1, .ref 6, .ref 30]) (hp1 := (hz F A L)) rfl ?_
      refine w_al (k := 6) (l := (A 6)) rfl rfl rfl (fun ab => ?_)
      refine w_c rfl rfl (t_kv_joinSets ?_)
      show wl_E f _ _ mm104.2.2.2.2.2.2.2.2 36 [some (.ref 30), some (.int y1), o2, o3] [] (hz F (uA A 40 (kv_joinSets (A 40) ((A 6).getD y1.toInt.toNat 0))) L) _
      generalize hG73 : (kv_joinSets (A 40) ((A 6).getD y1.toInt.toNat 0)) = G73 at hE ⊢
      refine w_n 2 (pc1 := 6) (ls1 := [some (.ref 30), some (.int (y1 + 1)), o2, o3]) (st1 := []) (hp1 := (hz F (uA A 40 G73) L)) rfl ?_
      subst T
      have hb2 := i_up (B := (12 : Int32)) hb
      have hb3 : y1.toInt < 12 := hb
      exact ih (show m = (12 - (y1 + 1).toInt).toNat by rw [hb2]; omega) (fun q1 => cvE rfl (funext fun q => if k0 : q = 40 then by subst k0; exact Eq.trans (b := (kv_winningSets_6 (F 3 1) (A 6) m (y1 + 1) G73)) rfl rfl else by unfold uA; simp only [nb1 k0, cond_false]) rfl (K q1))
noncomputable def kv_winningSets_54 (a40 : List Int32) (x1 : Int32) : Nat → Int32 → Int32 → Int32
  | 0, y2, _ => y2
  | m + 1, y2, y3 => (if x1.toInt < (2 * y3).toInt then (kv_winningSets_54 a40 x1 m (y2 + (a40.getD y3.toInt.toNat 0)) (y3 + 1)) else (kv_winningSets_54 a40 x1 m y2 (y3 + 1)))
theorem t_kv_winningSets_54 {f : Nat} {Q : Option Value → sm_H → Prop} : ∀ (m : Nat) {B D : Nat} {F : Nat → Nat → Int32} {A : Nat → List Int32} {L : Nat → List Int64} {x1 : Int32} {y2 : Int32} {y3 : Int32}, m = ((Int32.ofNat (A 40).length).toInt - y3.toInt).toNat → (∀ q3 : Int32, wl_E f B D mm104.2.2.2.2.2.2.2.2 85 [some (.ref 30), some (.int x1), some (.int (kv_winningSets_54 (A 40) x1 m y2 y3)), some (.int q3)] [] (hz F A L) Q) → wl_E f B D mm104.2.2.2.2.2.2.2.2 54 [some (.ref 30), some (.int x1), some (.int y2), some (.int y3)] [] (hz F A L) Q := by
  intro m
  induction m with
  | zero =>
    intro B D F A L x1 y2 y3 hm K
    generalize hT : (kv_winningSets_54 (A 40) x1 0 y2 y3) = T at K
    have hE : T = y2 := hT.symm
    clear hT
    refine w_n 4 (pc1 := 60) (ls1 := [some (.ref 30), some (.int x1), some (.int y2), some (.int y3)]) (st1 := [.int (Int32.ofNat (A 40).length), .int y3]) (hp1 := (hz F A L)) rfl ?_
    refine w_ge (p3 := 63) rfl rfl (fun hb => ?_) (fun h => False.elim (by have h : y3.toInt < (Int32.ofNat (A 40).length).toInt := h; omega))
    subst T
    exact cvE rfl rfl rfl (K _)
  | succ m ih =>
    intro B D F A L x1 y2 y3 hm K
    generalize hT : (kv_winningSets_54 (A 40) x1 (m + 1) y2 y3) = T at K
    have hE : T = (if x1.toInt < (2 * y3).toInt then (kv_winningSets_54 (A 40) x1 m (y2 + ((A 40).getD y3.toInt.toNat 0)) (y3 + 1)) else (kv_winningSets_54 (A 40) x1 m y2 (y3 + 1))) := hT.symm
    clear hT
    refine w_n 4 (pc1 := 60) (ls1 := [some (.ref 30), some (.int x1), some (.int y2), some (.int y3)]) (st1 := [.int (Int32.ofNat (A 40).length), .int y3]) (hp1 := (hz F A L)) rfl ?_
    refine w_ge (p3 := 63) rfl rfl (fun h => False.elim (by have h : (Int32.ofNat (A 40).length).toInt ≤ y3.toInt := h; omega)) (fun hb => ?_)
    refine w_n 4 (pc1 := 67) (ls1 := [some (.ref 30), some (.int x1), some (.int y2), some (.int y3)]) (st1 := [.int x1, .int (2 * y3)]) (hp1 := (hz F A L)) rfl ?_
    refine w_le (p3 := 70) rfl rfl (fun h => ?_) (fun h => ?_)
    · have h1 : (2 * y3).toInt ≤ x1.toInt := h
      rw [if_neg (Int.not_lt.mpr h1)] at hE
      refine w_n 2 (pc1 := 54) (ls1 := [some (.ref 30), some (.int x1), some (.int y2), some (.int (y3 + 1))]) (st1 := []) (hp1 := (hz F A L)) rfl ?_
      subst T
      have hb2 := i_up (B := (Int32.ofNat (A 40).length)) hb
      have hb3 : y3.toInt < (Int32.ofNat (A 40).length).toInt := hb
      exact ih (show m = ((Int32.ofNat (A 40).length).toInt - (y3 + 1).toInt).toNat by rw [hb2]; omega) (fun q3 => cvE rfl rfl rfl (K q3))
    · have h1 : x1.toInt < (2 * y3).toInt := h
      rw [if_pos h1] at hE
      refine w_n 4 (pc1 := 76) (ls1 := [some (.ref 30), some (.int x1), some (.int y2), some (.int y3)]) (st1 := [.int y3, .ref 40, .int y2]) (hp1 := (hz F A L)) rfl ?_
      refine w_al (k := 40) (l := (A 40)) rfl rfl rfl (fun ab => ?_)
      refine w_n 4 (pc1 := 54) (ls1 := [some (.ref 30), some (.int x1), some (.int (y2 + ((A 40).getD y3.toInt.toNat 0))), some (.int (y3 + 1))]) (st1 := []) (hp1 := (hz F A L)) rfl ?_
      subst T
      have hb2 := i_up (B := (Int32.ofNat (A 40).length)) hb
      have hb3 : y3.toInt < (Int32.ofNat (A 40).length).toInt := hb
      exact ih (show m = ((Int32.ofNat (A 40).length).toInt - (y3 + 1).toInt).toNat by rw [hb2]; omega) (fun q3 => cvE rfl rfl rfl (K q3))
noncomputable def kv_winningSets (f3_1 : Int32) (a6 : List Int32) (a40 : List Int32) : Int32 × List Int32 := ((kv_winningSets_54 (kv_winningSets_6 f3_1 a6 12 0 (kv_beginSets a40)) (kt_allBiscuits f3_1 a6) ((Int32.ofNat (kv_winningSets_6 f3_1 a6 12 0 (kv_beginSets a40)).length).toInt).toNat 0 0), (kv_winningSets_6 f3_1 a6 12 0 (kv_beginSets a40)))
theorem t_kv_winningSets {f D : Nat} {F : Nat → Nat → Int32} {A : Nat → List Int32} {L : Nat → List Int64} {Q : Option Value → sm_H → Prop} (K : Q (some (.int ((kv_winningSets (F 3 1) (A 6) (A 40)).1))) (hz F (uA A 40 ((kv_winningSets (F 3 1) (A 6) (A 40)).2)) L)) : wl_M f D 104 [.ref 30] (hz F A L) Q := by
  generalize hT : (kv_winningSets (F 3 1) (A 6) (A 40)) = T at K
  have hE : T = ((kv_winningSets_54 (kv_winningSets_6 (F 3 1) (A 6) 12 0 (kv_beginSets (A 40))) (kt_allBiscuits (F 3 1) (A 6)) ((Int32.ofNat (kv_winningSets_6 (F 3 1) (A 6) 12 0 (kv_beginSets (A 40))).length).toInt).toNat 0 0), (kv_winningSets_6 (F 3 1) (A 6) 12 0 (kv_beginSets (A 40)))) := hT.symm
  clear hT
  refine w_m (E := mm104) rfl ?_
  show wl_E f f (D - 1) mm104.2.2.2.2.2.2.2.2 0 [some (.ref 30), none, none, none] [] (hz F A L) Q
  refine w_n 1 (pc1 := 1) (ls1 := [some (.ref 30), none, none, none]) (st1 := [.ref 30]) (hp1 := (hz F A L)) rfl ?_
  refine w_c rfl rfl (t_kv_beginSets ?_)
  show wl_E f _ _ mm104.2.2.2.2.2.2.2.2 4 [some (.ref 30), none, none, none] [] (hz F (uA A 40 (kv_beginSets (A 40))) L) _
  generalize hG71 : (kv_beginSets (A 40)) = G71 at hE ⊢
  refine w_n 2 (pc1 := 6) (ls1 := [some (.ref 30), some (.int 0), none, none]) (st1 := []) (hp1 := (hz F (uA A 40 G71) L)) rfl ?_
  refine t_kv_winningSets_6 12 (show (12 : Nat) = (12 - (0 : Int32).toInt).toNat by have e0 : (0 : Int32).toInt = 0 := rfl; first | rfl | omega) ?_
  intro r1
  show wl_E f _ _ mm104.2.2.2.2.2.2.2.2 42 [some (.ref 30), some (.int r1), none, none] [] (hz F (uA (uA A 40 G71) 40 (kv_winningSets_6 (F 3 1) (A 6) 12 0 G71)) L) _
  generalize hG74 : (kv_winningSets_6 (F 3 1) (A 6) 12 0 G71) = G74 at hE ⊢
  refine w_n 2 (pc1 := 46) (ls1 := [some (.ref 30), some (.int r1), none, none]) (st1 := [.ref 3]) (hp1 := (hz F (uA (uA A 40 G71) 40 G74) L)) rfl ?_
  refine w_c rfl rfl (t_kt_allBiscuits ?_)
  show wl_E f _ _ mm104.2.2.2.2.2.2.2.2 49 [some (.ref 30), some (.int r1), none, none] [.int (kt_allBiscuits (F 3 1) (A 6))] (hz F (uA (uA A 40 G71) 40 G74) L) _
  generalize hG75 : (kt_allBiscuits (F 3 1) (A 6)) = G75 at hE ⊢
  refine w_n 5 (pc1 := 54) (ls1 := [some (.ref 30), some (.int G75), some (.int 0), some (.int 0)]) (st1 := []) (hp1 := (hz F (uA (uA A 40 G71) 40 G74) L)) rfl ?_
  refine t_kv_winningSets_54 (((Int32.ofNat G74.length).toInt).toNat) (show ((Int32.ofNat G74.length).toInt).toNat = ((Int32.ofNat G74.length).toInt - (0 : Int32).toInt).toNat by have e0 : (0 : Int32).toInt = 0 := rfl; first | rfl | omega) ?_
  intro r2
  show wl_E f _ _ mm104.2.2.2.2.2.2.2.2 85 [some (.ref 30), some (.int G75), some (.int (kv_winningSets_54 G74 G75 ((Int32.ofNat G74.length).toInt).toNat 0 0)), some (.int r2)] [] (hz F (uA (uA A 40 G71) 40 G74) L) _
  generalize hG76 : (kv_winningSets_54 G74 G75 ((Int32.ofNat G74.length).toInt).toNat 0 0) = G76 at hE ⊢
  refine w_n 1 (pc1 := 86) (ls1 := [some (.ref 30), some (.int G75), some (.int G76), some (.int r2)]) (st1 := [.int G76]) (hp1 := (hz F (uA (uA A 40 G71) 40 G74) L)) rfl ?_
  subst T
  exact w_ri rfl (cvQ rfl (funext fun q => if k0 : q = 40 then by subst k0; exact Eq.trans (b := G74) rfl rfl else by unfold uA; simp only [nb1 k0, cond_false]) rfl K)
noncomputable def kc_power (f3_1 : Int32) (a6 : List Int32) (a40 : List Int32) (x1 : Int32) (x2 : Int32) : Int32 × List Int32 := (if x1 = (-1) then (if x2 = 1 then ((kv_winningSets f3_1 a6 a40).1, (kv_winningSets f3_1 a6 a40).2) else (if x2 = 2 then ((kv_leastWinningSets f3_1 a6 a40).1, (kv_leastWinningSets f3_1 a6 a40).2) else (if (kt_isTold f3_1 x1) = 0 then ((-1), a40) else (if x2 = 0 then ((kv_setsSwungBy f3_1 a6 a40 x1).1, (kv_setsSwungBy f3_1 a6 a40 x1).2) else ((-1), a40))))) else (if (kt_isTold f3_1 x1) = 0 then ((-1), a40) else (if x2 = 0 then ((kv_setsSwungBy f3_1 a6 a40 x1).1, (kv_setsSwungBy f3_1 a6 a40 x1).2) else ((-1), a40))))
theorem t_kc_power {f D : Nat} {F : Nat → Nat → Int32} {A : Nat → List Int32} {L : Nat → List Int64} {Q : Option Value → sm_H → Prop} {x1 : Int32} {x2 : Int32} (K : Q (some (.int ((kc_power (F 3 1) (A 6) (A 40) x1 x2).1))) (hz F (uA A 40 ((kc_power (F 3 1) (A 6) (A 40) x1 x2).2)) L)) : wl_M f D 103 [.ref 0, .int x1, .int x2] (hz F A L) Q := by
  generalize hT : (kc_power (F 3 1) (A 6) (A 40) x1 x2) = T at K
  have hE : T = (if x1 = (-1) then (if x2 = 1 then ((kv_winningSets (F 3 1) (A 6) (A 40)).1, (kv_winningSets (F 3 1) (A 6) (A 40)).2) else (if x2 = 2 then ((kv_leastWinningSets (F 3 1) (A 6) (A 40)).1, (kv_leastWinningSets (F 3 1) (A 6) (A 40)).2) else (if (kt_isTold (F 3 1) x1) = 0 then ((-1), (A 40)) else (if x2 = 0 then ((kv_setsSwungBy (F 3 1) (A 6) (A 40) x1).1, (kv_setsSwungBy (F 3 1) (A 6) (A 40) x1).2) else ((-1), (A 40)))))) else (if (kt_isTold (F 3 1) x1) = 0 then ((-1), (A 40)) else (if x2 = 0 then ((kv_setsSwungBy (F 3 1) (A 6) (A 40) x1).1, (kv_setsSwungBy (F 3 1) (A 6) (A 40) x1).2) else ((-1), (A 40))))) := hT.symm
  clear hT
  refine w_m (E := mm103) rfl ?_
  show wl_E f f (D - 1) mm103.2.2.2.2.2.2.2.2 0 [some (.ref 0), some (.int x1), some (.int x2)] [] (hz F A L) Q
  refine w_n 2 (pc1 := 2) (ls1 := [some (.ref 0), some (.int x1), some (.int x2)]) (st1 := [.int (-1), .int x1]) (hp1 := (hz F A L)) rfl ?_
  refine w_ne (p3 := 5) rfl rfl (fun h => ?_) (fun h => ?_)
  · have h1 : ¬ x1 = (-1) := h
    rw [if_neg h1] at hE
    refine w_n 2 (pc1 := 20) (ls1 := [some (.ref 0), some (.int x1), some (.int x2)]) (st1 := [.int (-1), .int x1]) (hp1 := (hz F A L)) rfl ?_
    refine w_ne (p3 := 23) rfl rfl (fun _ => ?_) (fun h => absurd h h1)
    refine w_n 3 (pc1 := 41) (ls1 := [some (.ref 0), some (.int x1), some (.int x2)]) (st1 := [.int x1, .ref 3]) (hp1 := (hz F A L)) rfl ?_
    refine w_c rfl rfl (t_kt_isTold ?_)
    show wl_E f _ _ mm103.2.2.2.2.2.2.2.2 44 [some (.ref 0), some (.int x1), some (.int x2)] [.int (kt_isTold (F 3 1) x1)] (hz F A L) _
    generalize hG48 : (kt_isTold (F 3 1) x1) = G48 at hE ⊢
    refine w_zeq (p3 := 47) rfl rfl (fun h => ?_) (fun h => ?_)
    · have h2 : G48 = 0 := h
      rw [if_pos h2] at hE
      refine w_n 1 (pc1 := 52) (ls1 := [some (.ref 0), some (.int x1), some (.int x2)]) (st1 := [.int (-1)]) (hp1 := (hz F A L)) rfl ?_
      subst T
      exact w_ri rfl (cvQ rfl (funext fun q => if k0 : q = 40 then by subst k0; exact Eq.trans (b := (A 40)) rfl rfl else by unfold uA; simp only [nb1 k0, cond_false]) rfl K)
    · have h2 : ¬ G48 = 0 := h
      rw [if_neg h2] at hE
      refine w_n 1 (pc1 := 48) (ls1 := [some (.ref 0), some (.int x1), some (.int x2)]) (st1 := [.int x2]) (hp1 := (hz F A L)) rfl ?_
      refine w_zeq (p3 := 51) rfl rfl (fun h => ?_) (fun h => ?_)
      · have h3 : x2 = 0 := h
        rw [if_pos h3] at hE
        refine w_n 3 (pc1 := 58) (ls1 := [some (.ref 0), some (.int x1), some (.int x2)]) (st1 := [.int x1, .ref 30]) (hp1 := (hz F A L)) rfl ?_
        refine w_c rfl rfl (t_kv_setsSwungBy ?_)
        show wl_E f _ _ mm103.2.2.2.2.2.2.2.2 61 [some (.ref 0), some (.int x1), some (.int x2)] [.int (kv_setsSwungBy (F 3 1) (A 6) (A 40) x1).1] (hz F (uA A 40 (kv_setsSwungBy (F 3 1) (A 6) (A 40) x1).2) L) _
        generalize hG61 : (kv_setsSwungBy (F 3 1) (A 6) (A 40) x1) = G61 at hE ⊢
        subst T
        exact w_ri rfl (cvQ rfl rfl rfl K)
      · have h3 : ¬ x2 = 0 := h
        rw [if_neg h3] at hE
        refine w_n 1 (pc1 := 52) (ls1 := [some (.ref 0), some (.int x1), some (.int x2)]) (st1 := [.int (-1)]) (hp1 := (hz F A L)) rfl ?_
        subst T
        exact w_ri rfl (cvQ rfl (funext fun q => if k0 : q = 40 then by subst k0; exact Eq.trans (b := (A 40)) rfl rfl else by unfold uA; simp only [nb1 k0, cond_false]) rfl K)
  · have h1 : x1 = (-1) := h
    rw [if_pos h1] at hE
    refine w_n 2 (pc1 := 7) (ls1 := [some (.ref 0), some (.int x1), some (.int x2)]) (st1 := [.int 1, .int x2]) (hp1 := (hz F A L)) rfl ?_
    refine w_ne (p3 := 10) rfl rfl (fun h => ?_) (fun h => ?_)
    · have h4 : ¬ x2 = 1 := h
      rw [if_neg h4] at hE
      refine w_n 2 (pc1 := 20) (ls1 := [some (.ref 0), some (.int x1), some (.int x2)]) (st1 := [.int (-1), .int x1]) (hp1 := (hz F A L)) rfl ?_
      refine w_ne (p3 := 23) rfl rfl (fun h => absurd h1 h) (fun _ => ?_)
      refine w_n 2 (pc1 := 25) (ls1 := [some (.ref 0), some (.int x1), some (.int x2)]) (st1 := [.int 2, .int x2]) (hp1 := (hz F A L)) rfl ?_
      refine w_ne (p3 := 28) rfl rfl (fun h => ?_) (fun h => ?_)
      · have h5 : ¬ x2 = 2 := h
        rw [if_neg h5] at hE
        refine w_n 3 (pc1 := 41) (ls1 := [some (.ref 0), some (.int x1), some (.int x2)]) (st1 := [.int x1, .ref 3]) (hp1 := (hz F A L)) rfl ?_
        refine w_c rfl rfl (t_kt_isTold ?_)
        show wl_E f _ _ mm103.2.2.2.2.2.2.2.2 44 [some (.ref 0), some (.int x1), some (.int x2)] [.int (kt_isTold (F 3 1) x1)] (hz F A L) _
        generalize hG62 : (kt_isTold (F 3 1) x1) = G62 at hE ⊢
        refine w_zeq (p3 := 47) rfl rfl (fun h => ?_) (fun h => ?_)
        · have h6 : G62 = 0 := h
          rw [if_pos h6] at hE
          refine w_n 1 (pc1 := 52) (ls1 := [some (.ref 0), some (.int x1), some (.int x2)]) (st1 := [.int (-1)]) (hp1 := (hz F A L)) rfl ?_
          subst T
          exact w_ri rfl (cvQ rfl (funext fun q => if k0 : q = 40 then by subst k0; exact Eq.trans (b := (A 40)) rfl rfl else by unfold uA; simp only [nb1 k0, cond_false]) rfl K)
        · have h6 : ¬ G62 = 0 := h
          rw [if_neg h6] at hE
          refine w_n 1 (pc1 := 48) (ls1 := [some (.ref 0), some (.int x1), some (.int x2)]) (st1 := [.int x2]) (hp1 := (hz F A L)) rfl ?_
          refine w_zeq (p3 := 51) rfl rfl (fun h => ?_) (fun h => ?_)
          · have h7 : x2 = 0 := h
            rw [if_pos h7] at hE
            refine w_n 3 (pc1 := 58) (ls1 := [some (.ref 0), some (.int x1), some (.int x2)]) (st1 := [.int x1, .ref 30]) (hp1 := (hz F A L)) rfl ?_
            refine w_c rfl rfl (t_kv_setsSwungBy ?_)
            show wl_E f _ _ mm103.2.2.2.2.2.2.2.2 61 [some (.ref 0), some (.int x1), some (.int x2)] [.int (kv_setsSwungBy (F 3 1) (A 6) (A 40) x1).1] (hz F (uA A 40 (kv_setsSwungBy (F 3 1) (A 6) (A 40) x1).2) L) _
            generalize hG63 : (kv_setsSwungBy (F 3 1) (A 6) (A 40) x1) = G63 at hE ⊢
            subst T
            exact w_ri rfl (cvQ rfl rfl rfl K)
          · have h7 : ¬ x2 = 0 := h
            rw [if_neg h7] at hE
            refine w_n 1 (pc1 := 52) (ls1 := [some (.ref 0), some (.int x1), some (.int x2)]) (st1 := [.int (-1)]) (hp1 := (hz F A L)) rfl ?_
            subst T
            exact w_ri rfl (cvQ rfl (funext fun q => if k0 : q = 40 then by subst k0; exact Eq.trans (b := (A 40)) rfl rfl else by unfold uA; simp only [nb1 k0, cond_false]) rfl K)
      · have h5 : x2 = 2 := h
        rw [if_pos h5] at hE
        refine w_n 2 (pc1 := 32) (ls1 := [some (.ref 0), some (.int x1), some (.int x2)]) (st1 := [.ref 30]) (hp1 := (hz F A L)) rfl ?_
        refine w_c rfl rfl (t_kv_leastWinningSets ?_)
        show wl_E f _ _ mm103.2.2.2.2.2.2.2.2 35 [some (.ref 0), some (.int x1), some (.int x2)] [.int (kv_leastWinningSets (F 3 1) (A 6) (A 40)).1] (hz F (uA A 40 (kv_leastWinningSets (F 3 1) (A 6) (A 40)).2) L) _
        generalize hG70 : (kv_leastWinningSets (F 3 1) (A 6) (A 40)) = G70 at hE ⊢
        subst T
        exact w_ri rfl (cvQ rfl rfl rfl K)
    · have h4 : x2 = 1 := h
      rw [if_pos h4] at hE
      refine w_n 2 (pc1 := 14) (ls1 := [some (.ref 0), some (.int x1), some (.int x2)]) (st1 := [.ref 30]) (hp1 := (hz F A L)) rfl ?_
      refine w_c rfl rfl (t_kv_winningSets ?_)
      show wl_E f _ _ mm103.2.2.2.2.2.2.2.2 17 [some (.ref 0), some (.int x1), some (.int x2)] [.int (kv_winningSets (F 3 1) (A 6) (A 40)).1] (hz F (uA A 40 (kv_winningSets (F 3 1) (A 6) (A 40)).2) L) _
      generalize hG77 : (kv_winningSets (F 3 1) (A 6) (A 40)) = G77 at hE ⊢
      subst T
      exact w_ri rfl (cvQ rfl rfl rfl K)
noncomputable def kx_open (x1 : Int32) : Int32 × Int32 × Int32 := (x1, 0, 0)
theorem t_kx_open {f D : Nat} {F : Nat → Nat → Int32} {A : Nat → List Int32} {L : Nat → List Int64} {Q : Option Value → sm_H → Prop} {x1 : Int32} (K : Q none (hz (uF (uF (uF F 1 2 ((kx_open x1).1)) 1 3 ((kx_open x1).2.1)) 1 4 ((kx_open x1).2.2)) A L)) : wl_M f D 21 [.ref 1, .int x1] (hz F A L) Q := by
  generalize hT : (kx_open x1) = T at K
  have hE : T = (x1, 0, 0) := hT.symm
  clear hT
  refine w_m (E := mm21) rfl ?_
  show wl_E f f (D - 1) mm21.2.2.2.2.2.2.2.2 0 [some (.ref 1), some (.int x1)] [] (hz F A L) Q
  refine w_n 2 (pc1 := 2) (ls1 := [some (.ref 1), some (.int x1)]) (st1 := [.int x1, .ref 1]) (hp1 := (hz F A L)) rfl ?_
  refine w_pf (k := 1) (fs := hz_f1 F) (hp1 := (hz (uF F 1 2 x1) A L)) rfl rfl rfl (hz_p1_2 _) ?_
  refine w_n 2 (pc1 := 7) (ls1 := [some (.ref 1), some (.int x1)]) (st1 := [.int 0, .ref 1]) (hp1 := (hz (uF F 1 2 x1) A L)) rfl ?_
  refine w_pf (k := 1) (fs := hz_f1 (uF F 1 2 x1)) (hp1 := (hz (uF (uF F 1 2 x1) 1 3 0) A L)) rfl rfl rfl (hz_p1_3 _) ?_
  refine w_n 2 (pc1 := 12) (ls1 := [some (.ref 1), some (.int x1)]) (st1 := [.int 0, .ref 1]) (hp1 := (hz (uF (uF F 1 2 x1) 1 3 0) A L)) rfl ?_
  refine w_pf (k := 1) (fs := hz_f1 (uF (uF F 1 2 x1) 1 3 0)) (hp1 := (hz (uF (uF (uF F 1 2 x1) 1 3 0) 1 4 0) A L)) rfl rfl rfl (hz_p1_4 _) ?_
  subst T
  exact w_r rfl rfl (cvQ rfl rfl rfl K)
noncomputable def kx_sign (f1_2 : Int32) (f1_3 : Int32) (a2 : List Int32) : Int32 := (if f1_3.toInt < 0 then (-1) else (if f1_3.toInt < f1_2.toInt then (if f1_3.toInt < (Int32.ofNat a2.length).toInt then (a2.getD f1_3.toInt.toNat 0) else (-1)) else (-1)))
theorem t_kx_sign {f D : Nat} {F : Nat → Nat → Int32} {A : Nat → List Int32} {L : Nat → List Int64} {Q : Option Value → sm_H → Prop} (K : Q (some (.int (kx_sign (F 1 2) (F 1 3) (A 2)))) (hz F A L)) : wl_M f D 24 [.ref 1] (hz F A L) Q := by
  generalize hT : (kx_sign (F 1 2) (F 1 3) (A 2)) = T at K
  have hE : T = (if (F 1 3).toInt < 0 then (-1) else (if (F 1 3).toInt < (F 1 2).toInt then (if (F 1 3).toInt < (Int32.ofNat (A 2).length).toInt then ((A 2).getD (F 1 3).toInt.toNat 0) else (-1)) else (-1))) := hT.symm
  clear hT
  refine w_m (E := mm24) rfl ?_
  show wl_E f f (D - 1) mm24.2.2.2.2.2.2.2.2 0 [some (.ref 1)] [] (hz F A L) Q
  refine w_n 2 (pc1 := 4) (ls1 := [some (.ref 1)]) (st1 := [.int (F 1 3)]) (hp1 := (hz F A L)) rfl ?_
  refine w_zlt (p3 := 7) rfl rfl (fun h => ?_) (fun h => ?_)
  · have h1 : (F 1 3).toInt < 0 := h
    rw [if_pos h1] at hE
    refine w_n 1 (pc1 := 43) (ls1 := [some (.ref 1)]) (st1 := [.int (-1)]) (hp1 := (hz F A L)) rfl ?_
    subst T
    exact w_ri rfl (cvQ rfl rfl rfl K)
  · have h1 : 0 ≤ (F 1 3).toInt := h
    rw [if_neg (Int.not_lt.mpr h1)] at hE
    refine w_n 4 (pc1 := 15) (ls1 := [some (.ref 1)]) (st1 := [.int (F 1 2), .int (F 1 3)]) (hp1 := (hz F A L)) rfl ?_
    refine w_ge (p3 := 18) rfl rfl (fun h => ?_) (fun h => ?_)
    · have h2 : (F 1 2).toInt ≤ (F 1 3).toInt := h
      rw [if_neg (Int.not_lt.mpr h2)] at hE
      refine w_n 1 (pc1 := 43) (ls1 := [some (.ref 1)]) (st1 := [.int (-1)]) (hp1 := (hz F A L)) rfl ?_
      subst T
      exact w_ri rfl (cvQ rfl rfl rfl K)
    · have h2 : (F 1 3).toInt < (F 1 2).toInt := h
      rw [if_pos h2] at hE
      refine w_n 5 (pc1 := 27) (ls1 := [some (.ref 1)]) (st1 := [.int (Int32.ofNat (A 2).length), .int (F 1 3)]) (hp1 := (hz F A L)) rfl ?_
      refine w_ge (p3 := 30) rfl rfl (fun h => ?_) (fun h => ?_)
      · have h3 : (Int32.ofNat (A 2).length).toInt ≤ (F 1 3).toInt := h
        rw [if_neg (Int.not_lt.mpr h3)] at hE
        refine w_n 1 (pc1 := 43) (ls1 := [some (.ref 1)]) (st1 := [.int (-1)]) (hp1 := (hz F A L)) rfl ?_
        subst T
        exact w_ri rfl (cvQ rfl rfl rfl K)
      · have h3 : (F 1 3).toInt < (Int32.ofNat (A 2).length).toInt := h
        rw [if_pos h3] at hE
        refine w_n 4 (pc1 := 38) (ls1 := [some (.ref 1)]) (st1 := [.int (F 1 3), .ref 2]) (hp1 := (hz F A L)) rfl ?_
        refine w_al (k := 2) (l := (A 2)) rfl rfl rfl (fun _ => ?_)
        refine w_n 1 (pc1 := 43) (ls1 := [some (.ref 1)]) (st1 := [.int ((A 2).getD (F 1 3).toInt.toNat 0)]) (hp1 := (hz F A L)) rfl ?_
        subst T
        exact w_ri rfl (cvQ rfl rfl rfl K)
noncomputable def kx_fail (f1_3 : Int32) (f1_4 : Int32) (x1 : Int32) : Int32 × Int32 := (if f1_4 = 0 then ((-1), (((-1000) * x1) - f1_3)) else ((-1), f1_4))
theorem t_kx_fail {f D : Nat} {F : Nat → Nat → Int32} {A : Nat → List Int32} {L : Nat → List Int64} {Q : Option Value → sm_H → Prop} {x1 : Int32} (K : Q (some (.int ((kx_fail (F 1 3) (F 1 4) x1).1))) (hz (uF F 1 4 ((kx_fail (F 1 3) (F 1 4) x1).2)) A L)) : wl_M f D 25 [.ref 1, .int x1] (hz F A L) Q := by
  generalize hT : (kx_fail (F 1 3) (F 1 4) x1) = T at K
  have hE : T = (if (F 1 4) = 0 then ((-1), (((-1000) * x1) - (F 1 3))) else ((-1), (F 1 4))) := hT.symm
  clear hT
  refine w_m (E := mm25) rfl ?_
  show wl_E f f (D - 1) mm25.2.2.2.2.2.2.2.2 0 [some (.ref 1), some (.int x1)] [] (hz F A L) Q
  refine w_n 2 (pc1 := 4) (ls1 := [some (.ref 1), some (.int x1)]) (st1 := [.int (F 1 4)]) (hp1 := (hz F A L)) rfl ?_
  refine w_zne (p3 := 7) rfl rfl (fun h => ?_) (fun h => ?_)
  · have h1 : ¬ (F 1 4) = 0 := h
    rw [if_neg h1] at hE
    refine w_n 1 (pc1 := 22) (ls1 := [some (.ref 1), some (.int x1)]) (st1 := [.int (-1)]) (hp1 := (hz F A L)) rfl ?_
    subst T
    exact w_ri rfl (cvQ (funext fun q => funext fun z => if k0 : q = 1 ∧ z = 4 then by obtain ⟨w1, w2⟩ := k0; subst w1; subst w2; exact Eq.trans (b := (F 1 4)) rfl rfl else by unfold uF; simp only [nb2 k0, cond_false]) rfl rfl K)
  · have h1 : (F 1 4) = 0 := h
    rw [if_pos h1] at hE
    refine w_n 7 (pc1 := 18) (ls1 := [some (.ref 1), some (.int x1)]) (st1 := [.int (((-1000) * x1) - (F 1 3)), .ref 1]) (hp1 := (hz F A L)) rfl ?_
    refine w_pf (k := 1) (fs := hz_f1 F) (hp1 := (hz (uF F 1 4 (((-1000) * x1) - (F 1 3))) A L)) rfl rfl rfl (hz_p1_4 _) ?_
    refine w_n 1 (pc1 := 22) (ls1 := [some (.ref 1), some (.int x1)]) (st1 := [.int (-1)]) (hp1 := (hz (uF F 1 4 (((-1000) * x1) - (F 1 3))) A L)) rfl ?_
    subst T
    exact w_ri rfl (cvQ rfl rfl rfl K)
noncomputable def kt_isMeasure (f3_0 : Int32) (x1 : Int32) : Int32 := (if x1.toInt < 0 then 0 else (if x1.toInt < f3_0.toInt then 1 else 0))
theorem t_kt_isMeasure {f D : Nat} {F : Nat → Nat → Int32} {A : Nat → List Int32} {L : Nat → List Int64} {Q : Option Value → sm_H → Prop} {x1 : Int32} (K : Q (some (.int (kt_isMeasure (F 3 0) x1))) (hz F A L)) : wl_M f D 44 [.ref 3, .int x1] (hz F A L) Q := by
  generalize hT : (kt_isMeasure (F 3 0) x1) = T at K
  have hE : T = (if x1.toInt < 0 then 0 else (if x1.toInt < (F 3 0).toInt then 1 else 0)) := hT.symm
  clear hT
  refine w_m (E := mm44) rfl ?_
  show wl_E f f (D - 1) mm44.2.2.2.2.2.2.2.2 0 [some (.ref 3), some (.int x1)] [] (hz F A L) Q
  refine w_n 1 (pc1 := 1) (ls1 := [some (.ref 3), some (.int x1)]) (st1 := [.int x1]) (hp1 := (hz F A L)) rfl ?_
  refine w_zlt (p3 := 4) rfl rfl (fun h => ?_) (fun h => ?_)
  · have h1 : x1.toInt < 0 := h
    rw [if_pos h1] at hE
    refine w_n 1 (pc1 := 17) (ls1 := [some (.ref 3), some (.int x1)]) (st1 := [.int 0]) (hp1 := (hz F A L)) rfl ?_
    subst T
    exact w_ri rfl (cvQ rfl rfl rfl K)
  · have h1 : 0 ≤ x1.toInt := h
    rw [if_neg (Int.not_lt.mpr h1)] at hE
    refine w_n 3 (pc1 := 9) (ls1 := [some (.ref 3), some (.int x1)]) (st1 := [.int (F 3 0), .int x1]) (hp1 := (hz F A L)) rfl ?_
    refine w_ge (p3 := 12) rfl rfl (fun h => ?_) (fun h => ?_)
    · have h2 : (F 3 0).toInt ≤ x1.toInt := h
      rw [if_neg (Int.not_lt.mpr h2)] at hE
      refine w_n 1 (pc1 := 17) (ls1 := [some (.ref 3), some (.int x1)]) (st1 := [.int 0]) (hp1 := (hz F A L)) rfl ?_
      subst T
      exact w_ri rfl (cvQ rfl rfl rfl K)
    · have h2 : x1.toInt < (F 3 0).toInt := h
      rw [if_pos h2] at hE
      refine w_n 2 (pc1 := 17) (ls1 := [some (.ref 3), some (.int x1)]) (st1 := [.int 1]) (hp1 := (hz F A L)) rfl ?_
      subst T
      exact w_ri rfl (cvQ rfl rfl rfl K)
noncomputable def kc_readRanking_10 (f1_2 : Int32) (f1_4 : Int32) (f3_0 : Int32) (a2 : List Int32)  : Nat → Int64 → Int32 → Int32 → Int32 → Int32 → Int64 × Int32 × Int32
  | 0, y1, _, _, _, f1_3 => (if (kx_sign f1_2 f1_3 a2) = (-1) then (y1, f1_3, f1_4) else ((kx_fail f1_3 f1_4 1).1.toInt64, f1_3, (kx_fail f1_3 f1_4 1).2))
  | m + 1, y1, y3, y4, y5, f1_3 => (if 0 < y5.toInt then (if (kx_sign f1_2 f1_3 a2) = 62 then (if (kt_isMeasure f3_0 ((kx_sign f1_2 (f1_3 + 1) a2) - 97)) = 0 then ((kx_fail (f1_3 + 1) f1_4 1).1.toInt64, (f1_3 + 1), (kx_fail (f1_3 + 1) f1_4 1).2) else (if ((y3 >>> (((kx_sign f1_2 (f1_3 + 1) a2) - 97) &&& 31)) &&& 1) = 0 then (kc_readRanking_10 f1_2 f1_4 f3_0 a2 m (y1 ||| (y3.toInt64 <<< ((((kx_sign f1_2 (f1_3 + 1) a2) - 97) * 6).toInt64 &&& 63))) (y3 ||| ((1 : Int32) <<< (((kx_sign f1_2 (f1_3 + 1) a2) - 97) &&& 31))) y3 (y5 + 1) ((f1_3 + 1) + 1)) else ((kx_fail (f1_3 + 1) f1_4 6).1.toInt64, (f1_3 + 1), (kx_fail (f1_3 + 1) f1_4 6).2))) else (if (kx_sign f1_2 f1_3 a2) = 61 then (if (kt_isMeasure f3_0 ((kx_sign f1_2 (f1_3 + 1) a2) - 97)) = 0 then ((kx_fail (f1_3 + 1) f1_4 1).1.toInt64, (f1_3 + 1), (kx_fail (f1_3 + 1) f1_4 1).2) else (if ((y3 >>> (((kx_sign f1_2 (f1_3 + 1) a2) - 97) &&& 31)) &&& 1) = 0 then (kc_readRanking_10 f1_2 f1_4 f3_0 a2 m (y1 ||| (y4.toInt64 <<< ((((kx_sign f1_2 (f1_3 + 1) a2) - 97) * 6).toInt64 &&& 63))) (y3 ||| ((1 : Int32) <<< (((kx_sign f1_2 (f1_3 + 1) a2) - 97) &&& 31))) y4 (y5 + 1) ((f1_3 + 1) + 1)) else ((kx_fail (f1_3 + 1) f1_4 6).1.toInt64, (f1_3 + 1), (kx_fail (f1_3 + 1) f1_4 6).2))) else ((kx_fail f1_3 f1_4 1).1.toInt64, f1_3, (kx_fail f1_3 f1_4 1).2))) else (if (kt_isMeasure f3_0 ((kx_sign f1_2 f1_3 a2) - 97)) = 0 then ((kx_fail f1_3 f1_4 1).1.toInt64, f1_3, (kx_fail f1_3 f1_4 1).2) else (if ((y3 >>> (((kx_sign f1_2 f1_3 a2) - 97) &&& 31)) &&& 1) = 0 then (kc_readRanking_10 f1_2 f1_4 f3_0 a2 m (y1 ||| (y4.toInt64 <<< ((((kx_sign f1_2 f1_3 a2) - 97) * 6).toInt64 &&& 63))) (y3 ||| ((1 : Int32) <<< (((kx_sign f1_2 f1_3 a2) - 97) &&& 31))) y4 (y5 + 1) (f1_3 + 1)) else ((kx_fail f1_3 f1_4 6).1.toInt64, f1_3, (kx_fail f1_3 f1_4 6).2))))
theorem t_kc_readRanking_10 {f : Nat} {Q : Option Value → sm_H → Prop} : ∀ (m : Nat) {B D : Nat} {F : Nat → Nat → Int32} {A : Nat → List Int32} {L : Nat → List Int64} {y1 : Int64} {y3 : Int32} {y4 : Int32} {y5 : Int32} {o6 : Option Value}, m = ((F 3 0).toInt - y5.toInt).toNat → (Q (some (.long ((kc_readRanking_10 (F 1 2) (F 1 4) (F 3 0) (A 2) m y1 y3 y4 y5 (F 1 3)).1))) (hz (uF (uF F 1 3 ((kc_readRanking_10 (F 1 2) (F 1 4) (F 3 0) (A 2) m y1 y3 y4 y5 (F 1 3)).2.1)) 1 4 ((kc_readRanking_10 (F 1 2) (F 1 4) (F 3 0) (A 2) m y1 y3 y4 y5 (F 1 3)).2.2)) A L)) → wl_E f B D mm43.2.2.2.2.2.2.2.2 10 [some (.ref 0), some (.long y1), none, some (.int y3), some (.int y4), some (.int y5), o6] [] (hz F A L) Q := by
  intro m
  induction m with
  | zero =>
    intro B D F A L y1 y3 y4 y5 o6 hm K
    generalize hT : (kc_readRanking_10 (F 1 2) (F 1 4) (F 3 0) (A 2) 0 y1 y3 y4 y5 (F 1 3)) = T at K
    have hE : T = (if (kx_sign (F 1 2) (F 1 3) (A 2)) = (-1) then (y1, (F 1 3), (F 1 4)) else ((kx_fail (F 1 3) (F 1 4) 1).1.toInt64, (F 1 3), (kx_fail (F 1 3) (F 1 4) 1).2)) := hT.symm
    clear hT
    refine w_n 4 (pc1 := 19) (ls1 := [some (.ref 0), some (.long y1), none, some (.int y3), some (.int y4), some (.int y5), o6]) (st1 := [.int (F 3 0), .int y5]) (hp1 := (hz F A L)) rfl ?_
    refine w_ge (p3 := 22) rfl rfl (fun hb => ?_) (fun h => False.elim (by have h : y5.toInt < (F 3 0).toInt := h; omega))
    refine w_n 2 (pc1 := 179) (ls1 := [some (.ref 0), some (.long y1), none, some (.int y3), some (.int y4), some (.int y5), o6]) (st1 := [.ref 1]) (hp1 := (hz F A L)) rfl ?_
    refine w_c rfl rfl (t_kx_sign ?_)
    show wl_E f _ _ mm43.2.2.2.2.2.2.2.2 182 [some (.ref 0), some (.long y1), none, some (.int y3), some (.int y4), some (.int y5), o6] [.int (kx_sign (F 1 2) (F 1 3) (A 2))] (hz F A L) _
    generalize hG81 : (kx_sign (F 1 2) (F 1 3) (A 2)) = G81 at hE ⊢
    refine w_n 1 (pc1 := 183) (ls1 := [some (.ref 0), some (.long y1), none, some (.int y3), some (.int y4), some (.int y5), o6]) (st1 := [.int (-1), .int G81]) (hp1 := (hz F A L)) rfl ?_
    refine w_ne (p3 := 186) rfl rfl (fun h => ?_) (fun h => ?_)
    · have h1 : ¬ G81 = (-1) := h
      rw [if_neg h1] at hE
      refine w_n 3 (pc1 := 195) (ls1 := [some (.ref 0), some (.long y1), none, some (.int y3), some (.int y4), some (.int y5), o6]) (st1 := [.int 1, .ref 1]) (hp1 := (hz F A L)) rfl ?_
      refine w_c rfl rfl (t_kx_fail ?_)
      show wl_E f _ _ mm43.2.2.2.2.2.2.2.2 198 [some (.ref 0), some (.long y1), none, some (.int y3), some (.int y4), some (.int y5), o6] [.int (kx_fail (F 1 3) (F 1 4) 1).1] (hz (uF F 1 4 (kx_fail (F 1 3) (F 1 4) 1).2) A L) _
      generalize hG82 : (kx_fail (F 1 3) (F 1 4) 1) = G82 at hE ⊢
      refine w_n 1 (pc1 := 199) (ls1 := [some (.ref 0), some (.long y1), none, some (.int y3), some (.int y4), some (.int y5), o6]) (st1 := [.long G82.1.toInt64]) (hp1 := (hz (uF F 1 4 G82.2) A L)) rfl ?_
      subst T
      exact w_r rfl rfl (cvQ (funext fun q => funext fun z => if k0 : q = 1 ∧ z = 3 then by obtain ⟨w1, w2⟩ := k0; subst w1; subst w2; exact Eq.trans (b := (F 1 3)) rfl rfl else if k1 : q = 1 ∧ z = 4 then by obtain ⟨w1, w2⟩ := k1; subst w1; subst w2; exact Eq.trans (b := G82.2) rfl rfl else by unfold uF; simp only [nb2 k0, nb2 k1, cond_false]) rfl rfl K)
    · have h1 : G81 = (-1) := h
      rw [if_pos h1] at hE
      refine w_n 2 (pc1 := 199) (ls1 := [some (.ref 0), some (.long y1), none, some (.int y3), some (.int y4), some (.int y5), o6]) (st1 := [.long y1]) (hp1 := (hz F A L)) rfl ?_
      subst T
      exact w_r rfl rfl (cvQ (funext fun q => funext fun z => if k0 : q = 1 ∧ z = 3 then by obtain ⟨w1, w2⟩ := k0; subst w1; subst w2; exact Eq.trans (b := (F 1 3)) rfl rfl else if k1 : q = 1 ∧ z = 4 then by obtain ⟨w1, w2⟩ := k1; subst w1; subst w2; exact Eq.trans (b := (F 1 4)) rfl rfl else by unfold uF; simp only [nb2 k0, nb2 k1, cond_false]) rfl rfl K)
  | succ m ih =>
    intro B D F A L y1 y3 y4 y5 o6 hm K
    generalize hT : (kc_readRanking_10 (F 1 2) (F 1 4) (F 3 0) (A 2) (m + 1) y1 y3 y4 y5 (F 1 3)) = T at K
    have hE : T = (if 0 < y5.toInt then (if (kx_sign (F 1 2) (F 1 3) (A 2)) = 62 then (if (kt_isMeasure (F 3 0) ((kx_sign (F 1 2) ((F 1 3) + 1) (A 2)) - 97)) = 0 then ((kx_fail ((F 1 3) + 1) (F 1 4) 1).1.toInt64, ((F 1 3) + 1), (kx_fail ((F 1 3) + 1) (F 1 4) 1).2) else (if ((y3 >>> (((kx_sign (F 1 2) ((F 1 3) + 1) (A 2)) - 97) &&& 31)) &&& 1) = 0 then (kc_readRanking_10 (F 1 2) (F 1 4) (F 3 0) (A 2) m (y1 ||| (y3.toInt64 <<< ((((kx_sign (F 1 2) ((F 1 3) + 1) (A 2)) - 97) * 6).toInt64 &&& 63))) (y3 ||| ((1 : Int32) <<< (((kx_sign (F 1 2) ((F 1 3) + 1) (A 2)) - 97) &&& 31))) y3 (y5 + 1) (((F 1 3) + 1) + 1)) else ((kx_fail ((F 1 3) + 1) (F 1 4) 6).1.toInt64, ((F 1 3) + 1), (kx_fail ((F 1 3) + 1) (F 1 4) 6).2))) else (if (kx_sign (F 1 2) (F 1 3) (A 2)) = 61 then (if (kt_isMeasure (F 3 0) ((kx_sign (F 1 2) ((F 1 3) + 1) (A 2)) - 97)) = 0 then ((kx_fail ((F 1 3) + 1) (F 1 4) 1).1.toInt64, ((F 1 3) + 1), (kx_fail ((F 1 3) + 1) (F 1 4) 1).2) else (if ((y3 >>> (((kx_sign (F 1 2) ((F 1 3) + 1) (A 2)) - 97) &&& 31)) &&& 1) = 0 then (kc_readRanking_10 (F 1 2) (F 1 4) (F 3 0) (A 2) m (y1 ||| (y4.toInt64 <<< ((((kx_sign (F 1 2) ((F 1 3) + 1) (A 2)) - 97) * 6).toInt64 &&& 63))) (y3 ||| ((1 : Int32) <<< (((kx_sign (F 1 2) ((F 1 3) + 1) (A 2)) - 97) &&& 31))) y4 (y5 + 1) (((F 1 3) + 1) + 1)) else ((kx_fail ((F 1 3) + 1) (F 1 4) 6).1.toInt64, ((F 1 3) + 1), (kx_fail ((F 1 3) + 1) (F 1 4) 6).2))) else ((kx_fail (F 1 3) (F 1 4) 1).1.toInt64, (F 1 3), (kx_fail (F 1 3) (F 1 4) 1).2))) else (if (kt_isMeasure (F 3 0) ((kx_sign (F 1 2) (F 1 3) (A 2)) - 97)) = 0 then ((kx_fail (F 1 3) (F 1 4) 1).1.toInt64, (F 1 3), (kx_fail (F 1 3) (F 1 4) 1).2) else (if ((y3 >>> (((kx_sign (F 1 2) (F 1 3) (A 2)) - 97) &&& 31)) &&& 1) = 0 then (kc_readRanking_10 (F 1 2) (F 1 4) (F 3 0) (A 2) m (y1 ||| (y4.toInt64 <<< ((((kx_sign (F 1 2) (F 1 3) (A 2)) - 97) * 6).toInt64 &&& 63))) (y3 ||| ((1 : Int32) <<< (((kx_sign (F 1 2) (F 1 3) (A 2)) - 97) &&& 31))) y4 (y5 + 1) ((F 1 3) + 1)) else ((kx_fail (F 1 3) (F 1 4) 6).1.toInt64, (F 1 3), (kx_fail (F 1 3) (F 1 4) 6).2)))) := hT.symm
    clear hT
    refine w_n 4 (pc1 := 19) (ls1 := [some (.ref 0), some (.long y1), none, some (.int y3), some (.int y4), some (.int y5), o6]) (st1 := [.int (F 3 0), .int y5]) (hp1 := (hz F A L)) rfl ?_
    refine w_ge (p3 := 22) rfl rfl (fun h => False.elim (by have h : (F 3 0).toInt ≤ y5.toInt := h; omega)) (fun hb => ?_)
    refine w_n 1 (pc1 := 24) (ls1 := [some (.ref 0), some (.long y1), none, some (.int y3), some (.int y4), some (.int y5), o6]) (st1 := [.int y5]) (hp1 := (hz F A L)) rfl ?_
    refine w_zle (p3 := 27) rfl rfl (fun h => ?_) (fun h => ?_)
    · have h2 : y5.toInt ≤ 0 := h
      rw [if_neg (Int.not_lt.mpr h2)] at hE
      refine w_n 2 (pc1 := 87) (ls1 := [some (.ref 0), some (.long y1), none, some (.int y3), some (.int y4), some (.int y5), o6]) (st1 := [.ref 1]) (hp1 := (hz F A L)) rfl ?_
      refine w_c rfl rfl (t_kx_sign ?_)
      show wl_E f _ _ mm43.2.2.2.2.2.2.2.2 90 [some (.ref 0), some (.long y1), none, some (.int y3), some (.int y4), some (.int y5), o6] [.int (kx_sign (F 1 2) (F 1 3) (A 2))] (hz F A L) _
      generalize hG83 : (kx_sign (F 1 2) (F 1 3) (A 2)) = G83 at hE ⊢
      refine w_n 6 (pc1 := 101) (ls1 := [some (.ref 0), some (.long y1), none, some (.int y3), some (.int y4), some (.int y5), some (.int (G83 - 97))]) (st1 := [.int (G83 - 97), .ref 3]) (hp1 := (hz F A L)) rfl ?_
      refine w_c rfl rfl (t_kt_isMeasure ?_)
      show wl_E f _ _ mm43.2.2.2.2.2.2.2.2 104 [some (.ref 0), some (.long y1), none, some (.int y3), some (.int y4), some (.int y5), some (.int (G83 - 97))] [.int (kt_isMeasure (F 3 0) (G83 - 97))] (hz F A L) _
      generalize hG84 : (kt_isMeasure (F 3 0) (G83 - 97)) = G84 at hE ⊢
      refine w_zne (p3 := 107) rfl rfl (fun h => ?_) (fun h => ?_)
      · have h3 : ¬ G84 = 0 := h
        rw [if_neg h3] at hE
        refine w_n 5 (pc1 := 123) (ls1 := [some (.ref 0), some (.long y1), none, some (.int y3), some (.int y4), some (.int y5), some (.int (G83 - 97))]) (st1 := [.int ((y3 >>> ((G83 - 97) &&& 31)) &&& 1)]) (hp1 := (hz F A L)) rfl ?_
        refine w_zeq (p3 := 126) rfl rfl (fun h => ?_) (fun h => ?_)
        · have h4 : ((y3 >>> ((G83 - 97) &&& 31)) &&& 1) = 0 := h
          rw [if_pos h4] at hE
          refine w_n 21 (pc1 := 166) (ls1 := [some (.ref 0), some (.long (y1 ||| (y4.toInt64 <<< (((G83 - 97) * 6).toInt64 &&& 63)))), none, some (.int (y3 ||| ((1 : Int32) <<< ((G83 - 97) &&& 31)))), some (.int y4), some (.int y5), some (.int (G83 - 97))]) (st1 := [.int ((F 1 3) + 1), .ref 1]) (hp1 := (hz F A L)) rfl ?_
          refine w_pf (k := 1) (fs := hz_f1 F) (hp1 := (hz (uF F 1 3 ((F 1 3) + 1)) A L)) rfl rfl rfl (hz_p1_3 _) ?_
          refine w_n 2 (pc1 := 10) (ls1 := [some (.ref 0), some (.long (y1 ||| (y4.toInt64 <<< (((G83 - 97) * 6).toInt64 &&& 63)))), none, some (.int (y3 ||| ((1 : Int32) <<< ((G83 - 97) &&& 31)))), some (.int y4), some (.int (y5 + 1)), some (.int (G83 - 97))]) (st1 := []) (hp1 := (hz (uF F 1 3 ((F 1 3) + 1)) A L)) rfl ?_
          subst T
          have hb2 := i_up (B := (F 3 0)) hb
          have hb3 : y5.toInt < (F 3 0).toInt := hb
          exact ih (show m = ((F 3 0).toInt - (y5 + 1).toInt).toNat by rw [hb2]; omega) (cvQ (funext fun q => funext fun z => if k0 : q = 1 ∧ z = 3 then by obtain ⟨w1, w2⟩ := k0; subst w1; subst w2; exact Eq.trans (b := (kc_readRanking_10 (F 1 2) (F 1 4) (F 3 0) (A 2) m (y1 ||| (y4.toInt64 <<< (((G83 - 97) * 6).toInt64 &&& 63))) (y3 ||| ((1 : Int32) <<< ((G83 - 97) &&& 31))) y4 (y5 + 1) ((F 1 3) + 1)).2.1) rfl rfl else if k1 : q = 1 ∧ z = 4 then by obtain ⟨w1, w2⟩ := k1; subst w1; subst w2; exact Eq.trans (b := (kc_readRanking_10 (F 1 2) (F 1 4) (F 3 0) (A 2) m (y1 ||| (y4.toInt64 <<< (((G83 - 97) * 6).toInt64 &&& 63))) (y3 ||| ((1 : Int32) <<< ((G83 - 97) &&& 31))) y4 (y5 + 1) ((F 1 3) + 1)).2.2) rfl rfl else by unfold uF; simp only [nb2 k0, nb2 k1, cond_false]) rfl rfl K)
        · have h4 : ¬ ((y3 >>> ((G83 - 97) &&& 31)) &&& 1) = 0 := h
          rw [if_neg h4] at hE
          refine w_n 3 (pc1 := 132) (ls1 := [some (.ref 0), some (.long y1), none, some (.int y3), some (.int y4), some (.int y5), some (.int (G83 - 97))]) (st1 := [.int 6, .ref 1]) (hp1 := (hz F A L)) rfl ?_
          refine w_c rfl rfl (t_kx_fail ?_)
          show wl_E f _ _ mm43.2.2.2.2.2.2.2.2 135 [some (.ref 0), some (.long y1), none, some (.int y3), some (.int y4), some (.int y5), some (.int (G83 - 97))] [.int (kx_fail (F 1 3) (F 1 4) 6).1] (hz (uF F 1 4 (kx_fail (F 1 3) (F 1 4) 6).2) A L) _
          generalize hG85 : (kx_fail (F 1 3) (F 1 4) 6) = G85 at hE ⊢
          refine w_n 1 (pc1 := 136) (ls1 := [some (.ref 0), some (.long y1), none, some (.int y3), some (.int y4), some (.int y5), some (.int (G83 - 97))]) (st1 := [.long G85.1.toInt64]) (hp1 := (hz (uF F 1 4 G85.2) A L)) rfl ?_
          subst T
          exact w_r rfl rfl (cvQ (funext fun q => funext fun z => if k0 : q = 1 ∧ z = 3 then by obtain ⟨w1, w2⟩ := k0; subst w1; subst w2; exact Eq.trans (b := (F 1 3)) rfl rfl else if k1 : q = 1 ∧ z = 4 then by obtain ⟨w1, w2⟩ := k1; subst w1; subst w2; exact Eq.trans (b := G85.2) rfl rfl else by unfold uF; simp only [nb2 k0, nb2 k1, cond_false]) rfl rfl K)
      · have h3 : G84 = 0 := h
        rw [if_pos h3] at hE
        refine w_n 3 (pc1 := 112) (ls1 := [some (.ref 0), some (.long y1), none, some (.int y3), some (.int y4), some (.int y5), some (.int (G83 - 97))]) (st1 := [.int 1, .ref 1]) (hp1 := (hz F A L)) rfl ?_
        refine w_c rfl rfl (t_kx_fail ?_)
        show wl_E f _ _ mm43.2.2.2.2.2.2.2.2 115 [some (.ref 0), some (.long y1), none, some (.int y3), some (.int y4), some (.int y5), some (.int (G83 - 97))] [.int (kx_fail (F 1 3) (F 1 4) 1).1] (hz (uF F 1 4 (kx_fail (F 1 3) (F 1 4) 1).2) A L) _
        generalize hG86 : (kx_fail (F 1 3) (F 1 4) 1) = G86 at hE ⊢
        refine w_n 1 (pc1 := 116) (ls1 := [some (.ref 0), some (.long y1), none, some (.int y3), some (.int y4), some (.int y5), some (.int (G83 - 97))]) (st1 := [.long G86.1.toInt64]) (hp1 := (hz (uF F 1 4 G86.2) A L)) rfl ?_
        subst T
        exact w_r rfl rfl (cvQ (funext fun q => funext fun z => if k0 : q = 1 ∧ z = 3 then by obtain ⟨w1, w2⟩ := k0; subst w1; subst w2; exact Eq.trans (b := (F 1 3)) rfl rfl else if k1 : q = 1 ∧ z = 4 then by obtain ⟨w1, w2⟩ := k1; subst w1; subst w2; exact Eq.trans (b := G86.2) rfl rfl else by unfold uF; simp only [nb2 k0, nb2 k1, cond_false]) rfl rfl K)
    · have h2 : 0 < y5.toInt := h
      rw [if_pos h2] at hE
      refine w_n 2 (pc1 := 31) (ls1 := [some (.ref 0), some (.long y1), none, some (.int y3), some (.int y4), some (.int y5), o6]) (st1 := [.ref 1]) (hp1 := (hz F A L)) rfl ?_
      refine w_c rfl rfl (t_kx_sign ?_)
      show wl_E f _ _ mm43.2.2.2.2.2.2.2.2 34 [some (.ref 0), some (.long y1), none, some (.int y3), some (.int y4), some (.int y5), o6] [.int (kx_sign (F 1 2) (F 1 3) (A 2))] (hz F A L) _
      generalize hG87 : (kx_sign (F 1 2) (F 1 3) (A 2)) = G87 at hE ⊢
      refine w_n 3 (pc1 := 40) (ls1 := [some (.ref 0), some (.long y1), none, some (.int y3), some (.int y4), some (.int y5), some (.int G87)]) (st1 := [.int 62, .int G87]) (hp1 := (hz F A L)) rfl ?_
      refine w_eq (p3 := 43) rfl rfl (fun h => ?_) (fun h => ?_)
      · have h5 : G87 = 62 := h
        rw [if_pos h5] at hE
        refine w_n 2 (pc1 := 64) (ls1 := [some (.ref 0), some (.long y1), none, some (.int y3), some (.int y4), some (.int y5), some (.int G87)]) (st1 := [.int 62, .int G87]) (hp1 := (hz F A L)) rfl ?_
        refine w_ne (p3 := 67) rfl rfl (fun h => absurd h5 h) (fun _ => ?_)
        refine w_n 8 (pc1 := 80) (ls1 := [some (.ref 0), some (.long y1), none, some (.int y3), some (.int y3), some (.int y5), some (.int G87)]) (st1 := [.int ((F 1 3) + 1), .ref 1]) (hp1 := (hz F A L)) rfl ?_
        refine w_pf (k := 1) (fs := hz_f1 F) (hp1 := (hz (uF F 1 3 ((F 1 3) + 1)) A L)) rfl rfl rfl (hz_p1_3 _) ?_
        refine w_n 2 (pc1 := 87) (ls1 := [some (.ref 0), some (.long y1), none, some (.int y3), some (.int y3), some (.int y5), some (.int G87)]) (st1 := [.ref 1]) (hp1 := (hz (uF F 1 3 ((F 1 3) + 1)) A L)) rfl ?_
        refine w_c rfl rfl (t_kx_sign ?_)
        show wl_E f _ _ mm43.2.2.2.2.2.2.2.2 90 [some (.ref 0), some (.long y1), none, some (.int y3), some (.int y3), some (.int y5), some (.int G87)] [.int (kx_sign (F 1 2) ((F 1 3) + 1) (A 2))] (hz (uF F 1 3 ((F 1 3) + 1)) A L) _
        generalize hG88 : (kx_sign (F 1 2) ((F 1 3) + 1) (A 2)) = G88 at hE ⊢
        refine w_n 6 (pc1 := 101) (ls1 := [some (.ref 0), some (.long y1), none, some (.int y3), some (.int y3), some (.int y5), some (.int (G88 - 97))]) (st1 := [.int (G88 - 97), .ref 3]) (hp1 := (hz (uF F 1 3 ((F 1 3) + 1)) A L)) rfl ?_
        refine w_c rfl rfl (t_kt_isMeasure ?_)
        show wl_E f _ _ mm43.2.2.2.2.2.2.2.2 104 [some (.ref 0), some (.long y1), none, some (.int y3), some (.int y3), some (.int y5), some (.int (G88 - 97))] [.int (kt_isMeasure (F 3 0) (G88 - 97))] (hz (uF F 1 3 ((F 1 3) + 1)) A L) _
        generalize hG89 : (kt_isMeasure (F 3 0) (G88 - 97)) = G89 at hE ⊢
        refine w_zne (p3 := 107) rfl rfl (fun h => ?_) (fun h => ?_)
        · have h6 : ¬ G89 = 0 := h
          rw [if_neg h6] at hE
          refine w_n 5 (pc1 := 123) (ls1 := [some (.ref 0), some (.long y1), none, some (.int y3), some (.int y3), some (.int y5), some (.int (G88 - 97))]) (st1 := [.int ((y3 >>> ((G88 - 97) &&& 31)) &&& 1)]) (hp1 := (hz (uF F 1 3 ((F 1 3) + 1)) A L)) rfl ?_
          refine w_zeq (p3 := 126) rfl rfl (fun h => ?_) (fun h => ?_)
          · have h7 : ((y3 >>> ((G88 - 97) &&& 31)) &&& 1) = 0 := h
            rw [if_pos h7] at hE
            refine w_n 21 (pc1 := 166) (ls1 := [some (.ref 0), some (.long (y1 ||| (y3.toInt64 <<< (((G88 - 97) * 6).toInt64 &&& 63)))), none, some (.int (y3 ||| ((1 : Int32) <<< ((G88 - 97) &&& 31)))), some (.int y3), some (.int y5), some (.int (G88 - 97))]) (st1 := [.int (((F 1 3) + 1) + 1), .ref 1]) (hp1 := (hz (uF F 1 3 ((F 1 3) + 1)) A L)) rfl ?_
            refine w_pf (k := 1) (fs := hz_f1 (uF F 1 3 ((F 1 3) + 1))) (hp1 := (hz (uF (uF F 1 3 ((F 1 3) + 1)) 1 3 (((F 1 3) + 1) + 1)) A L)) rfl rfl rfl (hz_p1_3 _) ?_
            refine w_n 2 (pc1 := 10) (ls1 := [some (.ref 0), some (.long (y1 ||| (y3.toInt64 <<< (((G88 - 97) * 6).toInt64 &&& 63)))), none, some (.int (y3 ||| ((1 : Int32) <<< ((G88 - 97) &&& 31)))), some (.int y3), some (.int (y5 + 1)), some (.int (G88 - 97))]) (st1 := []) (hp1 := (hz (uF (uF F 1 3 ((F 1 3) + 1)) 1 3 (((F 1 3) + 1) + 1)) A L)) rfl ?_
            subst T
            have hb2 := i_up (B := (F 3 0)) hb
            have hb3 : y5.toInt < (F 3 0).toInt := hb
            exact ih (show m = ((F 3 0).toInt - (y5 + 1).toInt).toNat by rw [hb2]; omega) (cvQ (funext fun q => funext fun z => if k0 : q = 1 ∧ z = 3 then by obtain ⟨w1, w2⟩ := k0; subst w1; subst w2; exact Eq.trans (b := (kc_readRanking_10 (F 1 2) (F 1 4) (F 3 0) (A 2) m (y1 ||| (y3.toInt64 <<< (((G88 - 97) * 6).toInt64 &&& 63))) (y3 ||| ((1 : Int32) <<< ((G88 - 97) &&& 31))) y3 (y5 + 1) (((F 1 3) + 1) + 1)).2.1) rfl rfl else if k1 : q = 1 ∧ z = 4 then by obtain ⟨w1, w2⟩ := k1; subst w1; subst w2; exact Eq.trans (b := (kc_readRanking_10 (F 1 2) (F 1 4) (F 3 0) (A 2) m (y1 ||| (y3.toInt64 <<< (((G88 - 97) * 6).toInt64 &&& 63))) (y3 ||| ((1 : Int32) <<< ((G88 - 97) &&& 31))) y3 (y5 + 1) (((F 1 3) + 1) + 1)).2.2) rfl rfl else by unfold uF; simp only [nb2 k0, nb2 k1, cond_false]) rfl rfl K)
          · have h7 : ¬ ((y3 >>> ((G88 - 97) &&& 31)) &&& 1) = 0 := h
            rw [if_neg h7] at hE
            refine w_n 3 (pc1 := 132) (ls1 := [some (.ref 0), some (.long y1), none, some (.int y3), some (.int y3), some (.int y5), some (.int (G88 - 97))]) (st1 := [.int 6, .ref 1]) (hp1 := (hz (uF F 1 3 ((F 1 3) + 1)) A L)) rfl ?_
            refine w_c rfl rfl (t_kx_fail ?_)
            show wl_E f _ _ mm43.2.2.2.2.2.2.2.2 135 [some (.ref 0), some (.long y1), none, some (.int y3), some (.int y3), some (.int y5), some (.int (G88 - 97))] [.int (kx_fail ((F 1 3) + 1) (F 1 4) 6).1] (hz (uF (uF F 1 3 ((F 1 3) + 1)) 1 4 (kx_fail ((F 1 3) + 1) (F 1 4) 6).2) A L) _
            generalize hG90 : (kx_fail ((F 1 3) + 1) (F 1 4) 6) = G90 at hE ⊢
            refine w_n 1 (pc1 := 136) (ls1 := [some (.ref 0), some (.long y1), none, some (.int y3), some (.int y3), some (.int y5), some (.int (G88 - 97))]) (st1 := [.long G90.1.toInt64]) (hp1 := (hz (uF (uF F 1 3 ((F 1 3) + 1)) 1 4 G90.2) A L)) rfl ?_
            subst T
            exact w_r rfl rfl (cvQ rfl rfl rfl K)
        · have h6 : G89 = 0 := h
          rw [if_pos h6] at hE
          refine w_n 3 (pc1 := 112) (ls1 := [some (.ref 0), some (.long y1), none, some (.int y3), some (.int y3), some (.int y5), some (.int (G88 - 97))]) (st1 := [.int 1, .ref 1]) (hp1 := (hz (uF F 1 3 ((F 1 3) + 1)) A L)) rfl ?_
          refine w_c rfl rfl (t_kx_fail ?_)
          show wl_E f _ _ mm43.2.2.2.2.2.2.2.2 115 [some (.ref 0), some (.long y1), none, some (.int y3), some (.int y3), some (.int y5), some (.int (G88 - 97))] [.int (kx_fail ((F 1 3) + 1) (F 1 4) 1).1] (hz (uF (uF F 1 3 ((F 1 3) + 1)) 1 4 (kx_fail ((F 1 3) + 1) (F 1 4) 1).2) A L) _
          generalize hG91 : (kx_fail ((F 1 3) + 1) (F 1 4) 1) = G91 at hE ⊢
          refine w_n 1 (pc1 := 116) (ls1 := [some (.ref 0), some (.long y1), none, some (.int y3), some (.int y3), some (.int y5), some (.int (G88 - 97))]) (st1 := [.long G91.1.toInt64]) (hp1 := (hz (uF (uF F 1 3 ((F 1 3) + 1)) 1 4 G91.2) A L)) rfl ?_
          subst T
          exact w_r rfl rfl (cvQ rfl rfl rfl K)
      · have h5 : ¬ G87 = 62 := h
        rw [if_neg h5] at hE
        refine w_n 2 (pc1 := 47) (ls1 := [some (.ref 0), some (.long y1), none, some (.int y3), some (.int y4), some (.int y5), some (.int G87)]) (st1 := [.int 61, .int G87]) (hp1 := (hz F A L)) rfl ?_
        refine w_eq (p3 := 50) rfl rfl (fun h => ?_) (fun h => ?_)
        · have h8 : G87 = 61 := h
          rw [if_pos h8] at hE
          refine w_n 2 (pc1 := 64) (ls1 := [some (.ref 0), some (.long y1), none, some (.int y3), some (.int y4), some (.int y5), some (.int G87)]) (st1 := [.int 62, .int G87]) (hp1 := (hz F A L)) rfl ?_
          refine w_ne (p3 := 67) rfl rfl (fun _ => ?_) (fun h => absurd h h5)
          refine w_n 6 (pc1 := 80) (ls1 := [some (.ref 0), some (.long y1), none, some (.int y3), some (.int y4), some (.int y5), some (.int G87)]) (st1 := [.int ((F 1 3) + 1), .ref 1]) (hp1 := (hz F A L)) rfl ?_
          refine w_pf (k := 1) (fs := hz_f1 F) (hp1 := (hz (uF F 1 3 ((F 1 3) + 1)) A L)) rfl rfl rfl (hz_p1_3 _) ?_
          refine w_n 2 (pc1 := 87) (ls1 := [some (.ref 0), some (.long y1), none, some (.int y3), some (.int y4), some (.int y5), some (.int G87)]) (st1 := [.ref 1]) (hp1 := (hz (uF F 1 3 ((F 1 3) + 1)) A L)) rfl ?_
          refine w_c rfl rfl (t_kx_sign ?_)
          show wl_E f _ _ mm43.2.2.2.2.2.2.2.2 90 [some (.ref 0), some (.long y1), none, some (.int y3), some (.int y4), some (.int y5), some (.int G87)] [.int (kx_sign (F 1 2) ((F 1 3) + 1) (A 2))] (hz (uF F 1 3 ((F 1 3) + 1)) A L) _
          generalize hG92 : (kx_sign (F 1 2) ((F 1 3) + 1) (A 2)) = G92 at hE ⊢
          refine w_n 6 (pc1 := 101) (ls1 := [some (.ref 0), some (.long y1), none, some (.int y3), some (.int y4), some (.int y5), some (.int (G92 - 97))]) (st1 := [.int (G92 - 97), .ref 3]) (hp1 := (hz (uF F 1 3 ((F 1 3) + 1)) A L)) rfl ?_
          refine w_c rfl rfl (t_kt_isMeasure ?_)
          show wl_E f _ _ mm43.2.2.2.2.2.2.2.2 104 [some (.ref 0), some (.long y1), none, some (.int y3), some (.int y4), some (.int y5), some (.int (G92 - 97))] [.int (kt_isMeasure (F 3 0) (G92 - 97))] (hz (uF F 1 3 ((F 1 3) + 1)) A L) _
          generalize hG93 : (kt_isMeasure (F 3 0) (G92 - 97)) = G93 at hE ⊢
          refine w_zne (p3 := 107) rfl rfl (fun h => ?_) (fun h => ?_)
          · have h9 : ¬ G93 = 0 := h
            rw [if_neg h9] at hE
            refine w_n 5 (pc1 := 123) (ls1 := [some (.ref 0), some (.long y1), none, some (.int y3), some (.int y4), some (.int y5), some (.int (G92 - 97))]) (st1 := [.int ((y3 >>> ((G92 - 97) &&& 31)) &&& 1)]) (hp1 := (hz (uF F 1 3 ((F 1 3) + 1)) A L)) rfl ?_
            refine w_zeq (p3 := 126) rfl rfl (fun h => ?_) (fun h => ?_)
            · have h10 : ((y3 >>> ((G92 - 97) &&& 31)) &&& 1) = 0 := h
              rw [if_pos h10] at hE
              refine w_n 21 (pc1 := 166) (ls1 := [some (.ref 0), some (.long (y1 ||| (y4.toInt64 <<< (((G92 - 97) * 6).toInt64 &&& 63)))), none, some (.int (y3 ||| ((1 : Int32) <<< ((G92 - 97) &&& 31)))), some (.int y4), some (.int y5), some (.int (G92 - 97))]) (st1 := [.int (((F 1 3) + 1) + 1), .ref 1]) (hp1 := (hz (uF F 1 3 ((F 1 3) + 1)) A L)) rfl ?_
              refine w_pf (k := 1) (fs := hz_f1 (uF F 1 3 ((F 1 3) + 1))) (hp1 := (hz (uF (uF F 1 3 ((F 1 3) + 1)) 1 3 (((F 1 3) + 1) + 1)) A L)) rfl rfl rfl (hz_p1_3 _) ?_
              refine w_n 2 (pc1 := 10) (ls1 := [some (.ref 0), some (.long (y1 ||| (y4.toInt64 <<< (((G92 - 97) * 6).toInt64 &&& 63)))), none, some (.int (y3 ||| ((1 : Int32) <<< ((G92 - 97) &&& 31)))), some (.int y4), some (.int (y5 + 1)), some (.int (G92 - 97))]) (st1 := []) (hp1 := (hz (uF (uF F 1 3 ((F 1 3) + 1)) 1 3 (((F 1 3) + 1) + 1)) A L)) rfl ?_
              subst T
              have hb2 := i_up (B := (F 3 0)) hb
              have hb3 : y5.toInt < (F 3 0).toInt := hb
              exact ih (show m = ((F 3 0).toInt - (y5 + 1).toInt).toNat by rw [hb2]; omega) (cvQ (funext fun q => funext fun z => if k0 : q = 1 ∧ z = 3 then by obtain ⟨w1, w2⟩ := k0; subst w1; subst w2; exact Eq.trans (b := (kc_readRanking_10 (F 1 2) (F 1 4) (F 3 0) (A 2) m (y1 ||| (y4.toInt64 <<< (((G92 - 97) * 6).toInt64 &&& 63))) (y3 ||| ((1 : Int32) <<< ((G92 - 97) &&& 31))) y4 (y5 + 1) (((F 1 3) + 1) + 1)).2.1) rfl rfl else if k1 : q = 1 ∧ z = 4 then by obtain ⟨w1, w2⟩ := k1; subst w1; subst w2; exact Eq.trans (b := (kc_readRanking_10 (F 1 2) (F 1 4) (F 3 0) (A 2) m (y1 ||| (y4.toInt64 <<< (((G92 - 97) * 6).toInt64 &&& 63))) (y3 ||| ((1 : Int32) <<< ((G92 - 97) &&& 31))) y4 (y5 + 1) (((F 1 3) + 1) + 1)).2.2) rfl rfl else by unfold uF; simp only [nb2 k0, nb2 k1, cond_false]) rfl rfl K)
            · have h10 : ¬ ((y3 >>> ((G92 - 97) &&& 31)) &&& 1) = 0 := h
              rw [if_neg h10] at hE
              refine w_n 3 (pc1 := 132) (ls1 := [some (.ref 0), some (.long y1), none, some (.int y3), some (.int y4), some (.int y5), some (.int (G92 - 97))]) (st1 := [.int 6, .ref 1]) (hp1 := (hz (uF F 1 3 ((F 1 3) + 1)) A L)) rfl ?_
              refine w_c rfl rfl (t_kx_fail ?_)
              show wl_E f _ _ mm43.2.2.2.2.2.2.2.2 135 [some (.ref 0), some (.long y1), none, some (.int y3), some (.int y4), some (.int y5), some (.int (G92 - 97))] [.int (kx_fail ((F 1 3) + 1) (F 1 4) 6).1] (hz (uF (uF F 1 3 ((F 1 3) + 1)) 1 4 (kx_fail ((F 1 3) + 1) (F 1 4) 6).2) A L) _
              generalize hG94 : (kx_fail ((F 1 3) + 1) (F 1 4) 6) = G94 at hE ⊢
              refine w_n 1 (pc1 := 136) (ls1 := [some (.ref 0), some (.long y1), none, some (.int y3), some (.int y4), some (.int y5), some (.int (G92 - 97))]) (st1 := [.long G94.1.toInt64]) (hp1 := (hz (uF (uF F 1 3 ((F 1 3) + 1)) 1 4 G94.2) A L)) rfl ?_
              subst T
              exact w_r rfl rfl (cvQ rfl rfl rfl K)
          · have h9 : G93 = 0 := h
            rw [if_pos h9] at hE
            refine w_n 3 (pc1 := 112) (ls1 := [some (.ref 0), some (.long y1), none, some (.int y3), some (.int y4), some (.int y5), some (.int (G92 - 97))]) (st1 := [.int 1, .ref 1]) (hp1 := (hz (uF F 1 3 ((F 1 3) + 1)) A L)) rfl ?_
            refine w_c rfl rfl (t_kx_fail ?_)
            show wl_E f _ _ mm43.2.2.2.2.2.2.2.2 115 [some (.ref 0), some (.long y1), none, some (.int y3), some (.int y4), some (.int y5), some (.int (G92 - 97))] [.int (kx_fail ((F 1 3) + 1) (F 1 4) 1).1] (hz (uF (uF F 1 3 ((F 1 3) + 1)) 1 4 (kx_fail ((F 1 3) + 1) (F 1 4) 1).2) A L) _
            generalize hG95 : (kx_fail ((F 1 3) + 1) (F 1 4) 1) = G95 at hE ⊢
            refine w_n 1 (pc1 := 116) (ls1 := [some (.ref 0), some (.long y1), none, some (.int y3), some (.int y4), some (.int y5), some (.int (G92 - 97))]) (st1 := [.long G95.1.toInt64]) (hp1 := (hz (uF (uF F 1 3 ((F 1 3) + 1)) 1 4 G95.2) A L)) rfl ?_
            subst T
            exact w_r rfl rfl (cvQ rfl rfl rfl K)
        · have h8 : ¬ G87 = 61 := h
          rw [if_neg h8] at hE
          refine w_n 3 (pc1 := 55) (ls1 := [some (.ref 0), some (.long y1), none, some (.int y3), some (.int y4), some (.int y5), some (.int G87)]) (st1 := [.int 1, .ref 1]) (hp1 := (hz F A L)) rfl ?_
          refine w_c rfl rfl (t_kx_fail ?_)
          show wl_E f _ _ mm43.2.2.2.2.2.2.2.2 58 [some (.ref 0), some (.long y1), none, some (.int y3), some (.int y4), some (.int y5), some (.int G87)] [.int (kx_fail (F 1 3) (F 1 4) 1).1] (hz (uF F 1 4 (kx_fail (F 1 3) (F 1 4) 1).2) A L) _
          generalize hG96 : (kx_fail (F 1 3) (F 1 4) 1) = G96 at hE ⊢
          refine w_n 1 (pc1 := 59) (ls1 := [some (.ref 0), some (.long y1), none, some (.int y3), some (.int y4), some (.int y5), some (.int G87)]) (st1 := [.long G96.1.toInt64]) (hp1 := (hz (uF F 1 4 G96.2) A L)) rfl ?_
          subst T
          exact w_r rfl rfl (cvQ (funext fun q => funext fun z => if k0 : q = 1 ∧ z = 3 then by obtain ⟨w1, w2⟩ := k0; subst w1; subst w2; exact Eq.trans (b := (F 1 3)) rfl rfl else if k1 : q = 1 ∧ z = 4 then by obtain ⟨w1, w2⟩ := k1; subst w1; subst w2; exact Eq.trans (b := G96.2) rfl rfl else by unfold uF; simp only [nb2 k0, nb2 k1, cond_false]) rfl rfl K)
noncomputable def kc_readRanking (f1_2 : Int32) (f1_3 : Int32) (f1_4 : Int32) (f3_0 : Int32) (a2 : List Int32) : Int64 × Int32 × Int32 := (kc_readRanking_10 f1_2 f1_4 f3_0 a2 f3_0.toInt.toNat 0 0 0 0 f1_3)
theorem t_kc_readRanking {f D : Nat} {F : Nat → Nat → Int32} {A : Nat → List Int32} {L : Nat → List Int64} {Q : Option Value → sm_H → Prop} (K : Q (some (.long ((kc_readRanking (F 1 2) (F 1 3) (F 1 4) (F 3 0) (A 2)).1))) (hz (uF (uF F 1 3 ((kc_readRanking (F 1 2) (F 1 3) (F 1 4) (F 3 0) (A 2)).2.1)) 1 4 ((kc_readRanking (F 1 2) (F 1 3) (F 1 4) (F 3 0) (A 2)).2.2)) A L)) : wl_M f D 43 [.ref 0] (hz F A L) Q := by
  generalize hT : (kc_readRanking (F 1 2) (F 1 3) (F 1 4) (F 3 0) (A 2)) = T at K
  have hE : T = (kc_readRanking_10 (F 1 2) (F 1 4) (F 3 0) (A 2) (F 3 0).toInt.toNat 0 0 0 0 (F 1 3)) := hT.symm
  clear hT
  refine w_m (E := mm43) rfl ?_
  show wl_E f f (D - 1) mm43.2.2.2.2.2.2.2.2 0 [some (.ref 0), none, none, none, none, none, none] [] (hz F A L) Q
  refine w_n 8 (pc1 := 10) (ls1 := [some (.ref 0), some (.long 0), none, some (.int 0), some (.int 0), some (.int 0), none]) (st1 := []) (hp1 := (hz F A L)) rfl ?_
  subst T
  exact t_kc_readRanking_10 _ (show (F 3 0).toInt.toNat = ((F 3 0).toInt - (0 : Int32).toInt).toNat by have e0 : (0 : Int32).toInt = 0 := rfl; first | rfl | omega) (cvQ (funext fun q => funext fun z => if k0 : q = 1 ∧ z = 3 then by obtain ⟨w1, w2⟩ := k0; subst w1; subst w2; exact Eq.trans (b := (kc_readRanking_10 (F 1 2) (F 1 4) (F 3 0) (A 2) (F 3 0).toInt.toNat 0 0 0 0 (F 1 3)).2.1) rfl rfl else if k1 : q = 1 ∧ z = 4 then by obtain ⟨w1, w2⟩ := k1; subst w1; subst w2; exact Eq.trans (b := (kc_readRanking_10 (F 1 2) (F 1 4) (F 3 0) (A 2) (F 3 0).toInt.toNat 0 0 0 0 (F 1 3)).2.2) rfl rfl else by unfold uF; simp only [nb2 k0, nb2 k1, cond_false]) rfl rfl K)
noncomputable def kt_aheadOf (l11 : List Int64) (x1 : Int32) (x2 : Int32) : Int32 := (((((l11.getD x1.toInt.toNat 0).toUInt64 >>> ((x2 * 6).toInt64.toUInt64 &&& Int64.toUInt64 63)).toInt64).toInt32) &&& 63)
theorem t_kt_aheadOf {f D : Nat} {F : Nat → Nat → Int32} {A : Nat → List Int32} {L : Nat → List Int64} {Q : Option Value → sm_H → Prop} {x1 : Int32} {x2 : Int32} (K : Q (some (.int (kt_aheadOf (L 11) x1 x2))) (hz F A L)) : wl_M f D 46 [.ref 3, .int x1, .int x2] (hz F A L) Q := by
  generalize hT : (kt_aheadOf (L 11) x1 x2) = T at K
  have hE : T = ((((((L 11).getD x1.toInt.toNat 0).toUInt64 >>> ((x2 * 6).toInt64.toUInt64 &&& Int64.toUInt64 63)).toInt64).toInt32) &&& 63) := hT.symm
  clear hT
  refine w_m (E := mm46) rfl ?_
  show wl_E f f (D - 1) mm46.2.2.2.2.2.2.2.2 0 [some (.ref 3), some (.int x1), some (.int x2)] [] (hz F A L) Q
  refine w_n 3 (pc1 := 5) (ls1 := [some (.ref 3), some (.int x1), some (.int x2)]) (st1 := [.int x1, .ref 11]) (hp1 := (hz F A L)) rfl ?_
  refine w_ll (k := 11) (l := (L 11)) rfl rfl rfl (fun _ => ?_)
  refine w_n 7 (pc1 := 15) (ls1 := [some (.ref 3), some (.int x1), some (.int x2)]) (st1 := [.int ((((((L 11).getD x1.toInt.toNat 0).toUInt64 >>> ((x2 * 6).toInt64.toUInt64 &&& Int64.toUInt64 63)).toInt64).toInt32) &&& 63)]) (hp1 := (hz F A L)) rfl ?_
  subst T
  exact w_ri rfl (cvQ rfl rfl rfl K)
noncomputable def kt_steps_18 (l11 : List Int64) (x1 : Int32) (x3 : Int32) : Nat → Int32 → Int32 → Int32
  | 0, y4, _ => y4
  | m + 1, y4, y5 => (if (kt_aheadOf l11 x1 x3) = (kt_aheadOf l11 x1 y5) then (kt_steps_18 l11 x1 x3 m (y4 ||| 1) (y5 + 1)) else (kt_steps_18 l11 x1 x3 m (y4 ||| 0) (y5 + 1)))
theorem t_kt_steps_18 {f : Nat} {Q : Option Value → sm_H → Prop} : ∀ (m : Nat) {B D : Nat} {F : Nat → Nat → Int32} {A : Nat → List Int32} {L : Nat → List Int64} {x1 : Int32} {x2 : Int32} {x3 : Int32} {y4 : Int32} {y5 : Int32}, m = (x3.toInt - y5.toInt).toNat → (∀ q5 : Int32, wl_E f B D mm45.2.2.2.2.2.2.2.2 56 [some (.ref 3), some (.int x1), some (.int x2), some (.int x3), some (.int (kt_steps_18 (L 11) x1 x3 m y4 y5)), some (.int q5)] [] (hz F A L) Q) → wl_E f B D mm45.2.2.2.2.2.2.2.2 18 [some (.ref 3), some (.int x1), some (.int x2), some (.int x3), some (.int y4), some (.int y5)] [] (hz F A L) Q := by
  intro m
  induction m with
  | zero =>
    intro B D F A L x1 x2 x3 y4 y5 hm K
    generalize hT : (kt_steps_18 (L 11) x1 x3 0 y4 y5) = T at K
    have hE : T = y4 := hT.symm
    clear hT
    refine w_n 2 (pc1 := 21) (ls1 := [some (.ref 3), some (.int x1), some (.int x2), some (.int x3), some (.int y4), some (.int y5)]) (st1 := [.int x3, .int y5]) (hp1 := (hz F A L)) rfl ?_
    refine w_ge (p3 := 24) rfl rfl (fun hb => ?_) (fun h => False.elim (by have h : y5.toInt < x3.toInt := h; omega))
    subst T
    exact cvE rfl rfl rfl (K _)
  | succ m ih =>
    intro B D F A L x1 x2 x3 y4 y5 hm K
    generalize hT : (kt_steps_18 (L 11) x1 x3 (m + 1) y4 y5) = T at K
    have hE : T = (if (kt_aheadOf (L 11) x1 x3) = (kt_aheadOf (L 11) x1 y5) then (kt_steps_18 (L 11) x1 x3 m (y4 ||| 1) (y5 + 1)) else (kt_steps_18 (L 11) x1 x3 m (y4 ||| 0) (y5 + 1))) := hT.symm
    clear hT
    refine w_n 2 (pc1 := 21) (ls1 := [some (.ref 3), some (.int x1), some (.int x2), some (.int x3), some (.int y4), some (.int y5)]) (st1 := [.int x3, .int y5]) (hp1 := (hz F A L)) rfl ?_
    refine w_ge (p3 := 24) rfl rfl (fun h => False.elim (by have h : x3.toInt ≤ y5.toInt := h; omega)) (fun hb => ?_)
    refine w_n 4 (pc1 := 29) (ls1 := [some (.ref 3), some (.int x1), some (.int x2), some (.int x3), some (.int y4), some (.int y5)]) (st1 := [.int x3, .int x1, .ref 3, .int y4]) (hp1 := (hz F A L)) rfl ?_
    refine w_c rfl rfl (t_kt_aheadOf ?_)
    show wl_E f _ _ mm45.2.2.2.2.2.2.2.2 32 [some (.ref 3), some (.int x1), some (.int x2), some (.int x3), some (.int y4), some (.int y5)] [.int (kt_aheadOf (L 11) x1 x3), .int y4] (hz F A L) _
    generalize hG98 : (kt_aheadOf (L 11) x1 x3) = G98 at hE ⊢
    refine w_n 3 (pc1 := 36) (ls1 := [some (.ref 3), some (.int x1), some (.int x2), some (.int x3), some (.int y4), some (.int y5)]) (st1 := [.int y5, .int x1, .ref 3, .int G98, .int y4]) (hp1 := (hz F A L)) rfl ?_
    refine w_c rfl rfl (t_kt_aheadOf ?_)
    show wl_E f _ _ mm45.2.2.2.2.2.2.2.2 39 [some (.ref 3), some (.int x1), some (.int x2), some (.int x3), some (.int y4), some (.int y5)] [.int (kt_aheadOf (L 11) x1 y5), .int G98, .int y4] (hz F A L) _
    generalize hG99 : (kt_aheadOf (L 11) x1 y5) = G99 at hE ⊢
    refine w_ne (p3 := 42) rfl rfl (fun h => ?_) (fun h => ?_)
    · have h1 : ¬ G98 = G99 := h
      rw [if_neg h1] at hE
      refine w_n 5 (pc1 := 18) (ls1 := [some (.ref 3), some (.int x1), some (.int x2), some (.int x3), some (.int (y4 ||| 0)), some (.int (y5 + 1))]) (st1 := []) (hp1 := (hz F A L)) rfl ?_
      subst T
      have hb2 := i_up (B := x3) hb
      have hb3 : y5.toInt < x3.toInt := hb
      exact ih (show m = (x3.toInt - (y5 + 1).toInt).toNat by rw [hb2]; omega) (fun q5 => cvE rfl rfl rfl (K q5))
    · have h1 : G98 = G99 := h
      rw [if_pos h1] at hE
      refine w_n 6 (pc1 := 18) (ls1 := [some (.ref 3), some (.int x1), some (.int x2), some (.int x3), some (.int (y4 ||| 1)), some (.int (y5 + 1))]) (st1 := []) (hp1 := (hz F A L)) rfl ?_
      subst T
      have hb2 := i_up (B := x3) hb
      have hb3 : y5.toInt < x3.toInt := hb
      exact ih (show m = (x3.toInt - (y5 + 1).toInt).toNat by rw [hb2]; omega) (fun q5 => cvE rfl rfl rfl (K q5))
noncomputable def kt_steps_4 (l11 : List Int64) (x1 : Int32) : Nat → Int32 → Int32 → Int32
  | 0, y2, _ => y2
  | m + 1, y2, y3 => (if (kt_steps_18 l11 x1 y3 y3.toInt.toNat 0 0) = 0 then (kt_steps_4 l11 x1 m (y2 + 1) (y3 + 1)) else (kt_steps_4 l11 x1 m y2 (y3 + 1)))
theorem t_kt_steps_4 {f : Nat} {Q : Option Value → sm_H → Prop} : ∀ (m : Nat) {B D : Nat} {F : Nat → Nat → Int32} {A : Nat → List Int32} {L : Nat → List Int64} {x1 : Int32} {y2 : Int32} {y3 : Int32} {o4 : Option Value} {o5 : Option Value}, m = ((F 3 0).toInt - y3.toInt).toNat → (∀ q3 : Int32, ∀ q4 : Option Value, ∀ q5 : Option Value, wl_E f B D mm45.2.2.2.2.2.2.2.2 70 [some (.ref 3), some (.int x1), some (.int (kt_steps_4 (L 11) x1 m y2 y3)), some (.int q3), q4, q5] [] (hz F A L) Q) → wl_E f B D mm45.2.2.2.2.2.2.2.2 4 [some (.ref 3), some (.int x1), some (.int y2), some (.int y3), o4, o5] [] (hz F A L) Q := by
  intro m
  induction m with
  | zero =>
    intro B D F A L x1 y2 y3 o4 o5 hm K
    generalize hT : (kt_steps_4 (L 11) x1 0 y2 y3) = T at K
    have hE : T = y2 := hT.symm
    clear hT
    refine w_n 3 (pc1 := 9) (ls1 := [some (.ref 3), some (.int x1), some (.int y2), some (.int y3), o4, o5]) (st1 := [.int (F 3 0), .int y3]) (hp1 := (hz F A L)) rfl ?_
    refine w_ge (p3 := 12) rfl rfl (fun hb => ?_) (fun h => False.elim (by have h : y3.toInt < (F 3 0).toInt := h; omega))
    subst T
    exact cvE rfl rfl rfl (K _ _ _)
  | succ m ih =>
    intro B D F A L x1 y2 y3 o4 o5 hm K
    generalize hT : (kt_steps_4 (L 11) x1 (m + 1) y2 y3) = T at K
    have hE : T = (if (kt_steps_18 (L 11) x1 y3 y3.toInt.toNat 0 0) = 0 then (kt_steps_4 (L 11) x1 m (y2 + 1) (y3 + 1)) else (kt_steps_4 (L 11) x1 m y2 (y3 + 1))) := hT.symm
    clear hT
    refine w_n 3 (pc1 := 9) (ls1 := [some (.ref 3), some (.int x1), some (.int y2), some (.int y3), o4, o5]) (st1 := [.int (F 3 0), .int y3]) (hp1 := (hz F A L)) rfl ?_
    refine w_ge (p3 := 12) rfl rfl (fun h => False.elim (by have h : (F 3 0).toInt ≤ y3.toInt := h; omega)) (fun hb => ?_)
    refine w_n 4 (pc1 := 18) (ls1 := [some (.ref 3), some (.int x1), some (.int y2), some (.int y3), some (.int 0), some (.int 0)]) (st1 := []) (hp1 := (hz F A L)) rfl ?_
    refine t_kt_steps_18 y3.toInt.toNat (show y3.toInt.toNat = (y3.toInt - (0 : Int32).toInt).toNat by have e0 : (0 : Int32).toInt = 0 := rfl; first | rfl | omega) ?_
    intro r1
    show wl_E f _ _ mm45.2.2.2.2.2.2.2.2 56 [some (.ref 3), some (.int x1), some (.int y2), some (.int y3), some (.int (kt_steps_18 (L 11) x1 y3 y3.toInt.toNat 0 0)), some (.int r1)] [] (hz F A L) _
    generalize hG100 : (kt_steps_18 (L 11) x1 y3 y3.toInt.toNat 0 0) = G100 at hE ⊢
    refine w_n 1 (pc1 := 58) (ls1 := [some (.ref 3), some (.int x1), some (.int y2), some (.int y3), some (.int G100), some (.int r1)]) (st1 := [.int G100]) (hp1 := (hz F A L)) rfl ?_
    refine w_zne (p3 := 61) rfl rfl (fun h => ?_) (fun h => ?_)
    · have h1 : ¬ G100 = 0 := h
      rw [if_neg h1] at hE
      refine w_n 2 (pc1 := 4) (ls1 := [some (.ref 3), some (.int x1), some (.int y2), some (.int (y3 + 1)), some (.int G100), some (.int r1)]) (st1 := []) (hp1 := (hz F A L)) rfl ?_
      subst T
      have hb2 := i_up (B := (F 3 0)) hb
      have hb3 : y3.toInt < (F 3 0).toInt := hb
      exact ih (show m = ((F 3 0).toInt - (y3 + 1).toInt).toNat by rw [hb2]; omega) (fun q3 q4 q5 => cvE rfl rfl rfl (K q3 q4 q5))
    · have h1 : G100 = 0 := h
      rw [if_pos h1] at hE
      refine w_n 3 (pc1 := 4) (ls1 := [some (.ref 3), some (.int x1), some (.int (y2 + 1)), some (.int (y3 + 1)), some (.int G100), some (.int r1)]) (st1 := []) (hp1 := (hz F A L)) rfl ?_
      subst T
      have hb2 := i_up (B := (F 3 0)) hb
      have hb3 : y3.toInt < (F 3 0).toInt := hb
      exact ih (show m = ((F 3 0).toInt - (y3 + 1).toInt).toNat by rw [hb2]; omega) (fun q3 q4 q5 => cvE rfl rfl rfl (K q3 q4 q5))
noncomputable def kt_steps (f3_0 : Int32) (l11 : List Int64) (x1 : Int32) : Int32 := (kt_steps_4 l11 x1 f3_0.toInt.toNat 0 0)
theorem t_kt_steps {f D : Nat} {F : Nat → Nat → Int32} {A : Nat → List Int32} {L : Nat → List Int64} {Q : Option Value → sm_H → Prop} {x1 : Int32} (K : Q (some (.int (kt_steps (F 3 0) (L 11) x1))) (hz F A L)) : wl_M f D 45 [.ref 3, .int x1] (hz F A L) Q := by
  generalize hT : (kt_steps (F 3 0) (L 11) x1) = T at K
  have hE : T = (kt_steps_4 (L 11) x1 (F 3 0).toInt.toNat 0 0) := hT.symm
  clear hT
  refine w_m (E := mm45) rfl ?_
  show wl_E f f (D - 1) mm45.2.2.2.2.2.2.2.2 0 [some (.ref 3), some (.int x1), none, none, none, none] [] (hz F A L) Q
  refine w_n 4 (pc1 := 4) (ls1 := [some (.ref 3), some (.int x1), some (.int 0), some (.int 0), none, none]) (st1 := []) (hp1 := (hz F A L)) rfl ?_
  refine t_kt_steps_4 (F 3 0).toInt.toNat (show (F 3 0).toInt.toNat = ((F 3 0).toInt - (0 : Int32).toInt).toNat by have e0 : (0 : Int32).toInt = 0 := rfl; first | rfl | omega) ?_
  intro r1 r2 r3
  show wl_E f _ _ mm45.2.2.2.2.2.2.2.2 70 [some (.ref 3), some (.int x1), some (.int (kt_steps_4 (L 11) x1 (F 3 0).toInt.toNat 0 0)), some (.int r1), r2, r3] [] (hz F A L) _
  generalize hG101 : (kt_steps_4 (L 11) x1 (F 3 0).toInt.toNat 0 0) = G101 at hE ⊢
  refine w_n 1 (pc1 := 71) (ls1 := [some (.ref 3), some (.int x1), some (.int G101), some (.int r1), r2, r3]) (st1 := [.int G101]) (hp1 := (hz F A L)) rfl ?_
  subst T
  exact w_ri rfl (cvQ rfl rfl rfl K)
noncomputable def kc_ranking (f1_1 : Int32) (f1_2 : Int32) (f1_3 : Int32) (f1_4 : Int32) (f3_0 : Int32) (f3_1 : Int32) (a2 : List Int32) (l11 : List Int64) (x1 : Int32) (x2 : Int32) : Int32 × Int32 × Int32 × Int32 × Int32 × List Int64 := (if (kt_isTold f3_1 x1) = 0 then ((-1), f1_1, f1_2, f1_3, f1_4, l11) else (if (kx_has f1_1 x2 1 40) = 0 then ((-1), f1_1, f1_2, f1_3, f1_4, l11) else (if (kc_readRanking (kx_open x2).1 (kx_open x2).2.1 (kx_open x2).2.2 f3_0 a2).2.2 = 0 then ((kt_steps f3_0 (l11.set x1.toInt.toNat (kc_readRanking (kx_open x2).1 (kx_open x2).2.1 (kx_open x2).2.2 f3_0 a2).1) x1), 0, (kx_open x2).1, (kc_readRanking (kx_open x2).1 (kx_open x2).2.1 (kx_open x2).2.2 f3_0 a2).2.1, (kc_readRanking (kx_open x2).1 (kx_open x2).2.1 (kx_open x2).2.2 f3_0 a2).2.2, (l11.set x1.toInt.toNat (kc_readRanking (kx_open x2).1 (kx_open x2).2.1 (kx_open x2).2.2 f3_0 a2).1)) else ((kc_readRanking (kx_open x2).1 (kx_open x2).2.1 (kx_open x2).2.2 f3_0 a2).2.2, 0, (kx_open x2).1, (kc_readRanking (kx_open x2).1 (kx_open x2).2.1 (kx_open x2).2.2 f3_0 a2).2.1, (kc_readRanking (kx_open x2).1 (kx_open x2).2.1 (kx_open x2).2.2 f3_0 a2).2.2, l11))))
theorem t_kc_ranking {f D : Nat} {F : Nat → Nat → Int32} {A : Nat → List Int32} {L : Nat → List Int64} {Q : Option Value → sm_H → Prop} {x1 : Int32} {x2 : Int32} (K : Q (some (.int ((kc_ranking (F 1 1) (F 1 2) (F 1 3) (F 1 4) (F 3 0) (F 3 1) (A 2) (L 11) x1 x2).1))) (hz (uF (uF (uF (uF F 1 1 ((kc_ranking (F 1 1) (F 1 2) (F 1 3) (F 1 4) (F 3 0) (F 3 1) (A 2) (L 11) x1 x2).2.1)) 1 2 ((kc_ranking (F 1 1) (F 1 2) (F 1 3) (F 1 4) (F 3 0) (F 3 1) (A 2) (L 11) x1 x2).2.2.1)) 1 3 ((kc_ranking (F 1 1) (F 1 2) (F 1 3) (F 1 4) (F 3 0) (F 3 1) (A 2) (L 11) x1 x2).2.2.2.1)) 1 4 ((kc_ranking (F 1 1) (F 1 2) (F 1 3) (F 1 4) (F 3 0) (F 3 1) (A 2) (L 11) x1 x2).2.2.2.2.1)) A (uL L 11 ((kc_ranking (F 1 1) (F 1 2) (F 1 3) (F 1 4) (F 3 0) (F 3 1) (A 2) (L 11) x1 x2).2.2.2.2.2)))) : wl_M f D 42 [.ref 0, .int x1, .int x2] (hz F A L) Q := by
  generalize hT : (kc_ranking (F 1 1) (F 1 2) (F 1 3) (F 1 4) (F 3 0) (F 3 1) (A 2) (L 11) x1 x2) = T at K
  have hE : T = (if (kt_isTold (F 3 1) x1) = 0 then ((-1), (F 1 1), (F 1 2), (F 1 3), (F 1 4), (L 11)) else (if (kx_has (F 1 1) x2 1 40) = 0 then ((-1), (F 1 1), (F 1 2), (F 1 3), (F 1 4), (L 11)) else (if (kc_readRanking (kx_open x2).1 (kx_open x2).2.1 (kx_open x2).2.2 (F 3 0) (A 2)).2.2 = 0 then ((kt_steps (F 3 0) ((L 11).set x1.toInt.toNat (kc_readRanking (kx_open x2).1 (kx_open x2).2.1 (kx_open x2).2.2 (F 3 0) (A 2)).1) x1), 0, (kx_open x2).1, (kc_readRanking (kx_open x2).1 (kx_open x2).2.1 (kx_open x2).2.2 (F 3 0) (A 2)).2.1, (kc_readRanking (kx_open x2).1 (kx_open x2).2.1 (kx_open x2).2.2 (F 3 0) (A 2)).2.2, ((L 11).set x1.toInt.toNat (kc_readRanking (kx_open x2).1 (kx_open x2).2.1 (kx_open x2).2.2 (F 3 0) (A 2)).1)) else ((kc_readRanking (kx_open x2).1 (kx_open x2).2.1 (kx_open x2).2.2 (F 3 0) (A 2)).2.2, 0, (kx_open x2).1, (kc_readRanking (kx_open x2).1 (kx_open x2).2.1 (kx_open x2).2.2 (F 3 0) (A 2)).2.1, (kc_readRanking (kx_open x2).1 (kx_open x2).2.1 (kx_open x2).2.2 (F 3 0) (A 2)).2.2, (L 11))))) := hT.symm
  clear hT
  refine w_m (E := mm42) rfl ?_
  show wl_E f f (D - 1) mm42.2.2.2.2.2.2.2.2 0 [some (.ref 0), some (.int x1), some (.int x2), none, none] [] (hz F A L) Q
  refine w_n 3 (pc1 := 5) (ls1 := [some (.ref 0), some (.int x1), some (.int x2), none, none]) (st1 := [.int x1, .ref 3]) (hp1 := (hz F A L)) rfl ?_
  refine w_c rfl rfl (t_kt_isTold ?_)
  show wl_E f _ _ mm42.2.2.2.2.2.2.2.2 8 [some (.ref 0), some (.int x1), some (.int x2), none, none] [.int (kt_isTold (F 3 1) x1)] (hz F A L) _
  generalize hG78 : (kt_isTold (F 3 1) x1) = G78 at hE ⊢
  refine w_zeq (p3 := 11) rfl rfl (fun h => ?_) (fun h => ?_)
  · have h1 : G78 = 0 := h
    rw [if_pos h1] at hE
    refine w_n 1 (pc1 := 26) (ls1 := [some (.ref 0), some (.int x1), some (.int x2), none, none]) (st1 := [.int (-1)]) (hp1 := (hz F A L)) rfl ?_
    subst T
    exact w_ri rfl (cvQ (funext fun q => funext fun z => if k0 : q = 1 ∧ z = 1 then by obtain ⟨w1, w2⟩ := k0; subst w1; subst w2; exact Eq.trans (b := (F 1 1)) rfl rfl else if k1 : q = 1 ∧ z = 2 then by obtain ⟨w1, w2⟩ := k1; subst w1; subst w2; exact Eq.trans (b := (F 1 2)) rfl rfl else if k2 : q = 1 ∧ z = 3 then by obtain ⟨w1, w2⟩ := k2; subst w1; subst w2; exact Eq.trans (b := (F 1 3)) rfl rfl else if k3 : q = 1 ∧ z = 4 then by obtain ⟨w1, w2⟩ := k3; subst w1; subst w2; exact Eq.trans (b := (F 1 4)) rfl rfl else by unfold uF; simp only [nb2 k0, nb2 k1, nb2 k2, nb2 k3, cond_false]) rfl (funext fun q => if k0 : q = 11 then by subst k0; exact Eq.trans (b := (L 11)) rfl rfl else by unfold uL; simp only [nb1 k0, cond_false]) K)
  · have h1 : ¬ G78 = 0 := h
    rw [if_neg h1] at hE
    refine w_n 5 (pc1 := 19) (ls1 := [some (.ref 0), some (.int x1), some (.int x2), none, none]) (st1 := [.int 40, .int 1, .int x2, .ref 1]) (hp1 := (hz F A L)) rfl ?_
    refine w_c rfl rfl (t_kx_has ?_)
    show wl_E f _ _ mm42.2.2.2.2.2.2.2.2 22 [some (.ref 0), some (.int x1), some (.int x2), none, none] [.int (kx_has (F 1 1) x2 1 40)] (hz F A L) _
    generalize hG79 : (kx_has (F 1 1) x2 1 40) = G79 at hE ⊢
    refine w_zne (p3 := 25) rfl rfl (fun h => ?_) (fun h => ?_)
    · have h2 : ¬ G79 = 0 := h
      rw [if_neg h2] at hE
      refine w_n 3 (pc1 := 32) (ls1 := [some (.ref 0), some (.int x1), some (.int x2), none, none]) (st1 := [.int x2, .ref 1]) (hp1 := (hz F A L)) rfl ?_
      refine w_c rfl rfl (t_kx_open ?_)
      show wl_E f _ _ mm42.2.2.2.2.2.2.2.2 35 [some (.ref 0), some (.int x1), some (.int x2), none, none] [] (hz (uF (uF (uF F 1 2 (kx_open x2).1) 1 3 (kx_open x2).2.1) 1 4 (kx_open x2).2.2) A L) _
      generalize hG80 : (kx_open x2) = G80 at hE ⊢
      refine w_n 1 (pc1 := 36) (ls1 := [some (.ref 0), some (.int x1), some (.int x2), none, none]) (st1 := [.ref 0]) (hp1 := (hz (uF (uF (uF F 1 2 G80.1) 1 3 G80.2.1) 1 4 G80.2.2) A L)) rfl ?_
      refine w_c rfl rfl (t_kc_readRanking ?_)
      show wl_E f _ _ mm42.2.2.2.2.2.2.2.2 39 [some (.ref 0), some (.int x1), some (.int x2), none, none] [.long (kc_readRanking G80.1 G80.2.1 G80.2.2 (F 3 0) (A 2)).1] (hz (uF (uF (uF (uF (uF F 1 2 G80.1) 1 3 G80.2.1) 1 4 G80.2.2) 1 3 (kc_readRanking G80.1 G80.2.1 G80.2.2 (F 3 0) (A 2)).2.1) 1 4 (kc_readRanking G80.1 G80.2.1 G80.2.2 (F 3 0) (A 2)).2.2) A L) _
      generalize hG97 : (kc_readRanking G80.1 G80.2.1 G80.2.2 (F 3 0) (A 2)) = G97 at hE ⊢
      refine w_n 4 (pc1 := 45) (ls1 := [some (.ref 0), some (.int x1), some (.int x2), some (.long G97.1), none]) (st1 := [.int 0, .ref 1]) (hp1 := (hz (uF (uF (uF (uF (uF F 1 2 G80.1) 1 3 G80.2.1) 1 4 G80.2.2) 1 3 G97.2.1) 1 4 G97.2.2) A L)) rfl ?_
      refine w_pf (k := 1) (fs := hz_f1 (uF (uF (uF (uF (uF F 1 2 G80.1) 1 3 G80.2.1) 1 4 G80.2.2) 1 3 G97.2.1) 1 4 G97.2.2)) (hp1 := (hz (uF (uF (uF (uF (uF (uF F 1 2 G80.1) 1 3 G80.2.1) 1 4 G80.2.2) 1 3 G97.2.1) 1 4 G97.2.2) 1 1 0) A L)) rfl rfl rfl (hz_p1_1 _) ?_
      refine w_n 3 (pc1 := 55) (ls1 := [some (.ref 0), some (.int x1), some (.int x2), some (.long G97.1), none]) (st1 := [.int G97.2.2]) (hp1 := (hz (uF (uF (uF (uF (uF (uF F 1 2 G80.1) 1 3 G80.2.1) 1 4 G80.2.2) 1 3 G97.2.1) 1 4 G97.2.2) 1 1 0) A L)) rfl ?_
      refine w_zeq (p3 := 58) rfl rfl (fun h => ?_) (fun h => ?_)
      · have h3 : G97.2.2 = 0 := h
        rw [if_pos h3] at hE
        refine w_n 5 (pc1 := 75) (ls1 := [some (.ref 0), some (.int x1), some (.int x2), some (.long G97.1), none]) (st1 := [.long G97.1, .int x1, .ref 11]) (hp1 := (hz (uF (uF (uF (uF (uF (uF F 1 2 G80.1) 1 3 G80.2.1) 1 4 G80.2.2) 1 3 G97.2.1) 1 4 G97.2.2) 1 1 0) A L)) rfl ?_
        refine w_ls (k := 11) (l := (L 11)) (hp1 := (hz (uF (uF (uF (uF (uF (uF F 1 2 G80.1) 1 3 G80.2.1) 1 4 G80.2.2) 1 3 G97.2.1) 1 4 G97.2.2) 1 1 0) A (uL L 11 ((L 11).set x1.toInt.toNat G97.1)))) rfl rfl rfl (hz_s11 _) (fun _ => ?_)
        refine w_n 3 (pc1 := 81) (ls1 := [some (.ref 0), some (.int x1), some (.int x2), some (.long G97.1), none]) (st1 := [.int x1, .ref 3]) (hp1 := (hz (uF (uF (uF (uF (uF (uF F 1 2 G80.1) 1 3 G80.2.1) 1 4 G80.2.2) 1 3 G97.2.1) 1 4 G97.2.2) 1 1 0) A (uL L 11 ((L 11).set x1.toInt.toNat G97.1)))) rfl ?_
        refine w_c rfl rfl (t_kt_steps ?_)
        show wl_E f _ _ mm42.2.2.2.2.2.2.2.2 84 [some (.ref 0), some (.int x1), some (.int x2), some (.long G97.1), none] [.int (kt_steps (F 3 0) ((L 11).set x1.toInt.toNat G97.1) x1)] (hz (uF (uF (uF (uF (uF (uF F 1 2 G80.1) 1 3 G80.2.1) 1 4 G80.2.2) 1 3 G97.2.1) 1 4 G97.2.2) 1 1 0) A (uL L 11 ((L 11).set x1.toInt.toNat G97.1))) _
        generalize hG102 : (kt_steps (F 3 0) ((L 11).set x1.toInt.toNat G97.1) x1) = G102 at hE ⊢
        subst T
        exact w_ri rfl (cvQ (funext fun q => funext fun z => if k0 : q = 1 ∧ z = 1 then by obtain ⟨w1, w2⟩ := k0; subst w1; subst w2; exact Eq.trans (b := 0) rfl rfl else if k1 : q = 1 ∧ z = 2 then by obtain ⟨w1, w2⟩ := k1; subst w1; subst w2; exact Eq.trans (b := G80.1) rfl rfl else if k2 : q = 1 ∧ z = 3 then by obtain ⟨w1, w2⟩ := k2; subst w1; subst w2; exact Eq.trans (b := G97.2.1) rfl rfl else if k3 : q = 1 ∧ z = 4 then by obtain ⟨w1, w2⟩ := k3; subst w1; subst w2; exact Eq.trans (b := G97.2.2) rfl rfl else by unfold uF; simp only [nb2 k0, nb2 k1, nb2 k2, nb2 k3, cond_false]) rfl rfl K)
      · have h3 : ¬ G97.2.2 = 0 := h
        rw [if_neg h3] at hE
        refine w_n 3 (pc1 := 65) (ls1 := [some (.ref 0), some (.int x1), some (.int x2), some (.long G97.1), none]) (st1 := [.int G97.2.2]) (hp1 := (hz (uF (uF (uF (uF (uF (uF F 1 2 G80.1) 1 3 G80.2.1) 1 4 G80.2.2) 1 3 G97.2.1) 1 4 G97.2.2) 1 1 0) A L)) rfl ?_
        subst T
        exact w_ri rfl (cvQ (funext fun q => funext fun z => if k0 : q = 1 ∧ z = 1 then by obtain ⟨w1, w2⟩ := k0; subst w1; subst w2; exact Eq.trans (b := 0) rfl rfl else if k1 : q = 1 ∧ z = 2 then by obtain ⟨w1, w2⟩ := k1; subst w1; subst w2; exact Eq.trans (b := G80.1) rfl rfl else if k2 : q = 1 ∧ z = 3 then by obtain ⟨w1, w2⟩ := k2; subst w1; subst w2; exact Eq.trans (b := G97.2.1) rfl rfl else if k3 : q = 1 ∧ z = 4 then by obtain ⟨w1, w2⟩ := k3; subst w1; subst w2; exact Eq.trans (b := G97.2.2) rfl rfl else by unfold uF; simp only [nb2 k0, nb2 k1, nb2 k2, nb2 k3, cond_false]) rfl (funext fun q => if k0 : q = 11 then by subst k0; exact Eq.trans (b := (L 11)) rfl rfl else by unfold uL; simp only [nb1 k0, cond_false]) K)
    · have h2 : G79 = 0 := h
      rw [if_pos h2] at hE
      refine w_n 1 (pc1 := 26) (ls1 := [some (.ref 0), some (.int x1), some (.int x2), none, none]) (st1 := [.int (-1)]) (hp1 := (hz F A L)) rfl ?_
      subst T
      exact w_ri rfl (cvQ (funext fun q => funext fun z => if k0 : q = 1 ∧ z = 1 then by obtain ⟨w1, w2⟩ := k0; subst w1; subst w2; exact Eq.trans (b := (F 1 1)) rfl rfl else if k1 : q = 1 ∧ z = 2 then by obtain ⟨w1, w2⟩ := k1; subst w1; subst w2; exact Eq.trans (b := (F 1 2)) rfl rfl else if k2 : q = 1 ∧ z = 3 then by obtain ⟨w1, w2⟩ := k2; subst w1; subst w2; exact Eq.trans (b := (F 1 3)) rfl rfl else if k3 : q = 1 ∧ z = 4 then by obtain ⟨w1, w2⟩ := k3; subst w1; subst w2; exact Eq.trans (b := (F 1 4)) rfl rfl else by unfold uF; simp only [nb2 k0, nb2 k1, nb2 k2, nb2 k3, cond_false]) rfl (funext fun q => if k0 : q = 11 then by subst k0; exact Eq.trans (b := (L 11)) rfl rfl else by unfold uL; simp only [nb1 k0, cond_false]) K)
noncomputable def km_ranking_245 (a85 : List Int32) (x1 : Int32) : Nat → Int32 → List Int32 → List Int32
  | 0, _, a68 => a68
  | m + 1, y6, a68 => (km_ranking_245 a85 x1 m (y6 + 1) (a68.set ((72 + (6 * x1)) + y6).toInt.toNat (a85.getD y6.toInt.toNat 0)))
theorem t_km_ranking_245 {f : Nat} {Q : Option Value → sm_H → Prop} : ∀ (m : Nat) {B D : Nat} {F : Nat → Nat → Int32} {A : Nat → List Int32} {L : Nat → List Int64} {x1 : Int32} {x2 : Int32} {x3 : Int32} {x4 : Int32} {x5 : Int32} {y6 : Int32} {o7 : Option Value} {o8 : Option Value}, m = ((F 67 3).toInt - y6.toInt).toNat → (∀ q6 : Int32, wl_E f B D mm172.2.2.2.2.2.2.2.2 282 [some (.ref 67), some (.int x1), some (.int x2), some (.int x3), some (.int x4), some (.int x5), some (.int q6), o7, o8] [] (hz F (uA A 68 (km_ranking_245 (A 85) x1 m y6 (A 68))) L) Q) → wl_E f B D mm172.2.2.2.2.2.2.2.2 245 [some (.ref 67), some (.int x1), some (.int x2), some (.int x3), some (.int x4), some (.int x5), some (.int y6), o7, o8] [] (hz F A L) Q := by
  intro m
  induction m with
  | zero =>
    intro B D F A L x1 x2 x3 x4 x5 y6 o7 o8 hm K
    generalize hT : (km_ranking_245 (A 85) x1 0 y6 (A 68)) = T at K
    have hE : T = (A 68) := hT.symm
    clear hT
    refine w_n 3 (pc1 := 251) (ls1 := [some (.ref 67), some (.int x1), some (.int x2), some (.int x3), some (.int x4), some (.int x5), some (.int y6), o7, o8]) (st1 := [.int (F 67 3), .int y6]) (hp1 := (hz F A L)) rfl ?_
    refine w_ge (p3 := 254) rfl rfl (fun hb => ?_) (fun h => False.elim (by have h : y6.toInt < (F 67 3).toInt := h; omega))
    subst T
    exact cvE rfl (funext fun q => if k0 : q = 68 then by subst k0; exact Eq.trans (b := (A 68)) rfl rfl else by unfold uA; simp only [nb1 k0, cond_false]) rfl (K _)
  | succ m ih =>
    intro B D F A L x1 x2 x3 x4 x5 y6 o7 o8 hm K
    generalize hT : (km_ranking_245 (A 85) x1 (m + 1) y6 (A 68)) = T at K
    have hE : T = (km_ranking_245 (A 85) x1 m (y6 + 1) ((A 68).set ((72 + (6 * x1)) + y6).toInt.toNat ((A 85).getD y6.toInt.toNat 0))) := hT.symm
    clear hT
    refine w_n 3 (pc1 := 251) (ls1 := [some (.ref 67), some (.int x1), some (.int x2), some (.int x3), some (.int x4), some (.int x5), some (.int y6), o7, o8]) (st1 := [.int (F 67 3), .int y6]) (hp1 := (hz F A L)) rfl ?_
    refine w_ge (p3 := 254) rfl rfl (fun h => False.elim (by have h : (F 67 3).toInt ≤ y6.toInt := h; omega)) (fun hb => ?_)
    refine w_n 12 (pc1 := 274) (ls1 := [some (.ref 67), some (.int x1), some (.int x2), some (.int x3), some (.int x4), some (.int x5), some (.int y6), o7, o8]) (st1 := [.int y6, .ref 85, .int ((72 + (6 * x1)) + y6), .ref 68]) (hp1 := (hz F A L)) rfl ?_
    refine w_al (k := 85) (l := (A 85)) rfl rfl rfl (fun ab => ?_)
    refine w_as (k := 68) (l := (A 68)) (hp1 := (hz F (uA A 68 ((A 68).set ((72 + (6 * x1)) + y6).toInt.toNat ((A 85).getD y6.toInt.toNat 0))) L)) rfl rfl rfl (hz_s68 _) (fun _ => ?_)
    refine w_n 2 (pc1 := 245) (ls1 := [some (.ref 67), some (.int x1), some (.int x2), some (.int x3), some (.int x4), some (.int x5), some (.int (y6 + 1)), o7, o8]) (st1 := []) (hp1 := (hz F (uA A 68 ((A 68).set ((72 + (6 * x1)) + y6).toInt.toNat ((A 85).getD y6.toInt.toNat 0))) L)) rfl ?_
    subst T
    have hb2 := i_up (B := (F 67 3)) hb
    have hb3 : y6.toInt < (F 67 3).toInt := hb
    exact ih (show m = ((F 67 3).toInt - (y6 + 1).toInt).toNat by rw [hb2]; omega) (fun q6 => cvE rfl (funext fun q => if k0 : q = 68 then by subst k0; exact Eq.trans (b := (km_ranking_245 (A 85) x1 m (y6 + 1) ((A 68).set ((72 + (6 * x1)) + y6).toInt.toNat ((A 85).getD y6.toInt.toNat 0)))) rfl rfl else by unfold uA; simp only [nb1 k0, cond_false]) rfl (K q6))
