/-! lifts, printed by genlift.py: 3 -/
def kt_amountBetweenHalves_4 (a4 : List Int32) (a6 : List Int32) (x1 : Int32) : Nat → Int32 → Int32 → Int32
  | 0, y2, _ => y2
  | m + 1, y2, y3 => (if (a4.getD ((x1 + y3) - (x1 + y3) / 12 * 12).toInt.toNat 0) = (-1) then (kt_amountBetweenHalves_4 a4 a6 x1 m y2 (y3 + 1)) else (kt_amountBetweenHalves_4 a4 a6 x1 m (y2 + (a6.getD (a4.getD ((x1 + y3) - (x1 + y3) / 12 * 12).toInt.toNat 0).toInt.toNat 0)) (y3 + 1)))
theorem t_kt_amountBetweenHalves_4 {f : Nat} {Q : Option Value → sm_H → Prop} : ∀ (m : Nat) {B D : Nat} {F : Nat → Nat → Int32} {A : Nat → List Int32} {L : Nat → List Int64} {x1 : Int32} {y2 : Int32} {y3 : Int32} {o4 : Option Value}, m = (6 - y3.toInt).toNat → (∀ q3 : Int32, ∀ q4 : Option Value, wl_E f B D mm129.2.2.2.2.2.2.2.2 45 [some (.ref 3), some (.int x1), some (.int (kt_amountBetweenHalves_4 (A 4) (A 6) x1 m y2 y3)), some (.int q3), q4] [] (hz F A L) Q) → wl_E f B D mm129.2.2.2.2.2.2.2.2 4 [some (.ref 3), some (.int x1), some (.int y2), some (.int y3), o4] [] (hz F A L) Q := by
  intro m
  induction m with
  | zero =>
    intro B D F A L x1 y2 y3 o4 hm K
    generalize hT : (kt_amountBetweenHalves_4 (A 4) (A 6) x1 0 y2 y3) = T at K
    have hE : T = y2 := hT.symm
    clear hT
    refine w_n 2 (pc1 := 7) (ls1 := [some (.ref 3), some (.int x1), some (.int y2), some (.int y3), o4]) (st1 := [.int 6, .int y3]) (hp1 := (hz F A L)) rfl ?_
    refine w_ge (p3 := 10) rfl rfl (fun hb => ?_) (fun h => False.elim (by have h : y3.toInt < 6 := h; omega))
    subst T
    exact cvE rfl rfl rfl (K _ _)
  | succ m ih =>
    intro B D F A L x1 y2 y3 o4 hm K
    generalize hT : (kt_amountBetweenHalves_4 (A 4) (A 6) x1 (m + 1) y2 y3) = T at K
    have hE : T = (if ((A 4).getD ((x1 + y3) - (x1 + y3) / 12 * 12).toInt.toNat 0) = (-1) then (kt_amountBetweenHalves_4 (A 4) (A 6) x1 m y2 (y3 + 1)) else (kt_amountBetweenHalves_4 (A 4) (A 6) x1 m (y2 + ((A 6).getD ((A 4).getD ((x1 + y3) - (x1 + y3) / 12 * 12).toInt.toNat 0).toInt.toNat 0)) (y3 + 1))) := hT.symm
    clear hT
    refine w_n 2 (pc1 := 7) (ls1 := [some (.ref 3), some (.int x1), some (.int y2), some (.int y3), o4]) (st1 := [.int 6, .int y3]) (hp1 := (hz F A L)) rfl ?_
    refine w_ge (p3 := 10) rfl rfl (fun h => False.elim (by have h : 6 ≤ y3.toInt := h; omega)) (fun hb => ?_)
    refine w_n 6 (pc1 := 19) (ls1 := [some (.ref 3), some (.int x1), some (.int y2), some (.int y3), o4]) (st1 := [.int 12, .int (x1 + y3), .ref 4]) (hp1 := (hz F A L)) rfl ?_
    refine w_rm rfl rfl (fun _ => ?_)
    refine w_al (k := 4) (l := (A 4)) rfl rfl rfl (fun _ => ?_)
    refine w_n 3 (pc1 := 26) (ls1 := [some (.ref 3), some (.int x1), some (.int y2), some (.int y3), some (.int ((A 4).getD ((x1 + y3) - (x1 + y3) / 12 * 12).toInt.toNat 0))]) (st1 := [.int (-1), .int ((A 4).getD ((x1 + y3) - (x1 + y3) / 12 * 12).toInt.toNat 0)]) (hp1 := (hz F A L)) rfl ?_
    refine w_eq (p3 := 29) rfl rfl (fun h => ?_) (fun h => ?_)
    · have h1 : ((A 4).getD ((x1 + y3) - (x1 + y3) / 12 * 12).toInt.toNat 0) = (-1) := h
      rw [if_pos h1] at hE
      refine w_n 2 (pc1 := 4) (ls1 := [some (.ref 3), some (.int x1), some (.int y2), some (.int (y3 + 1)), some (.int ((A 4).getD ((x1 + y3) - (x1 + y3) / 12 * 12).toInt.toNat 0))]) (st1 := []) (hp1 := (hz F A L)) rfl ?_
      subst T
      have hb2 := i_up (B := (6 : Int32)) hb
      have hb3 : y3.toInt < 6 := hb
      exact ih (show m = (6 - (y3 + 1).toInt).toNat by rw [hb2]; omega) (fun q3 q4 => cvE rfl rfl rfl (K q3 q4))
    · have h1 : ¬ ((A 4).getD ((x1 + y3) - (x1 + y3) / 12 * 12).toInt.toNat 0) = (-1) := h
      rw [if_neg h1] at hE
      refine w_n 4 (pc1 := 36) (ls1 := [some (.ref 3), some (.int x1), some (.int y2), some (.int y3), some (.int ((A 4).getD ((x1 + y3) - (x1 + y3) / 12 * 12).toInt.toNat 0))]) (st1 := [.int ((A 4).getD ((x1 + y3) - (x1 + y3) / 12 * 12).toInt.toNat 0), .ref 6, .int y2]) (hp1 := (hz F A L)) rfl ?_
      refine w_al (k := 6) (l := (A 6)) rfl rfl rfl (fun _ => ?_)
      refine w_n 4 (pc1 := 4) (ls1 := [some (.ref 3), some (.int x1), some (.int (y2 + ((A 6).getD ((A 4).getD ((x1 + y3) - (x1 + y3) / 12 * 12).toInt.toNat 0).toInt.toNat 0))), some (.int (y3 + 1)), some (.int ((A 4).getD ((x1 + y3) - (x1 + y3) / 12 * 12).toInt.toNat 0))]) (st1 := []) (hp1 := (hz F A L)) rfl ?_
      subst T
      have hb2 := i_up (B := (6 : Int32)) hb
      have hb3 : y3.toInt < 6 := hb
      exact ih (show m = (6 - (y3 + 1).toInt).toNat by rw [hb2]; omega) (fun q3 q4 => cvE rfl rfl rfl (K q3 q4))
def kt_allBiscuits_4 (f3_1 : Int32) (a6 : List Int32)  : Nat → Int32 → Int32 → Int32
  | 0, y1, _ => y1
  | m + 1, y1, y2 => (if (kt_isTold f3_1 y2) = 0 then (kt_allBiscuits_4 f3_1 a6 m y1 (y2 + 1)) else (kt_allBiscuits_4 f3_1 a6 m (y1 + (a6.getD y2.toInt.toNat 0)) (y2 + 1)))
theorem t_kt_allBiscuits_4 {f : Nat} {Q : Option Value → sm_H → Prop} : ∀ (m : Nat) {B D : Nat} {F : Nat → Nat → Int32} {A : Nat → List Int32} {L : Nat → List Int64} {y1 : Int32} {y2 : Int32}, m = (12 - y2.toInt).toNat → (∀ q2 : Int32, wl_E f B D mm107.2.2.2.2.2.2.2.2 33 [some (.ref 3), some (.int (kt_allBiscuits_4 (F 3 1) (A 6) m y1 y2)), some (.int q2)] [] (hz F A L) Q) → wl_E f B D mm107.2.2.2.2.2.2.2.2 4 [some (.ref 3), some (.int y1), some (.int y2)] [] (hz F A L) Q := by
  intro m
  induction m with
  | zero =>
    intro B D F A L y1 y2 hm K
    generalize hT : (kt_allBiscuits_4 (F 3 1) (A 6) 0 y1 y2) = T at K
    have hE : T = y1 := hT.symm
    clear hT
    refine w_n 2 (pc1 := 7) (ls1 := [some (.ref 3), some (.int y1), some (.int y2)]) (st1 := [.int 12, .int y2]) (hp1 := (hz F A L)) rfl ?_
    refine w_ge (p3 := 10) rfl rfl (fun hb => ?_) (fun h => False.elim (by have h : y2.toInt < 12 := h; omega))
    subst T
    exact cvE rfl rfl rfl (K _)
  | succ m ih =>
    intro B D F A L y1 y2 hm K
    generalize hT : (kt_allBiscuits_4 (F 3 1) (A 6) (m + 1) y1 y2) = T at K
    have hE : T = (if (kt_isTold (F 3 1) y2) = 0 then (kt_allBiscuits_4 (F 3 1) (A 6) m y1 (y2 + 1)) else (kt_allBiscuits_4 (F 3 1) (A 6) m (y1 + ((A 6).getD y2.toInt.toNat 0)) (y2 + 1))) := hT.symm
    clear hT
    refine w_n 2 (pc1 := 7) (ls1 := [some (.ref 3), some (.int y1), some (.int y2)]) (st1 := [.int 12, .int y2]) (hp1 := (hz F A L)) rfl ?_
    refine w_ge (p3 := 10) rfl rfl (fun h => False.elim (by have h : 12 ≤ y2.toInt := h; omega)) (fun hb => ?_)
    refine w_n 2 (pc1 := 12) (ls1 := [some (.ref 3), some (.int y1), some (.int y2)]) (st1 := [.int y2, .ref 3]) (hp1 := (hz F A L)) rfl ?_
    refine w_c rfl rfl (t_kt_isTold ?_)
    show wl_E f _ _ mm107.2.2.2.2.2.2.2.2 15 [some (.ref 3), some (.int y1), some (.int y2)] [.int (kt_isTold (F 3 1) y2)] (hz F A L) _
    generalize hG71 : (kt_isTold (F 3 1) y2) = G71 at hE ⊢
    refine w_zeq (p3 := 18) rfl rfl (fun h => ?_) (fun h => ?_)
    · have h1 : G71 = 0 := h
      rw [if_pos h1] at hE
      refine w_n 2 (pc1 := 4) (ls1 := [some (.ref 3), some (.int y1), some (.int (y2 + 1))]) (st1 := []) (hp1 := (hz F A L)) rfl ?_
      subst T
      have hb2 := i_up (B := (12 : Int32)) hb
      have hb3 : y2.toInt < 12 := hb
      exact ih (show m = (12 - (y2 + 1).toInt).toNat by rw [hb2]; omega) (fun q2 => cvE rfl rfl rfl (K q2))
    · have h1 : ¬ G71 = 0 := h
      rw [if_neg h1] at hE
      refine w_n 4 (pc1 := 24) (ls1 := [some (.ref 3), some (.int y1), some (.int y2)]) (st1 := [.int y2, .ref 6, .int y1]) (hp1 := (hz F A L)) rfl ?_
      refine w_al (k := 6) (l := (A 6)) rfl rfl rfl (fun ab => ?_)
      refine w_n 4 (pc1 := 4) (ls1 := [some (.ref 3), some (.int (y1 + ((A 6).getD y2.toInt.toNat 0))), some (.int (y2 + 1))]) (st1 := []) (hp1 := (hz F A L)) rfl ?_
      subst T
      have hb2 := i_up (B := (12 : Int32)) hb
      have hb3 : y2.toInt < 12 := hb
      exact ih (show m = (12 - (y2 + 1).toInt).toNat by rw [hb2]; omega) (fun q2 => cvE rfl rfl rfl (K q2))
def kt_allBiscuits (f3_1 : Int32) (a6 : List Int32) : Int32 := (kt_allBiscuits_4 f3_1 a6 12 0 0)
theorem t_kt_allBiscuits {f D : Nat} {F : Nat → Nat → Int32} {A : Nat → List Int32} {L : Nat → List Int64} {Q : Option Value → sm_H → Prop} (K : Q (some (.int (kt_allBiscuits (F 3 1) (A 6)))) (hz F A L)) : wl_M f D 107 [.ref 3] (hz F A L) Q := by
  generalize hT : (kt_allBiscuits (F 3 1) (A 6)) = T at K
  have hE : T = (kt_allBiscuits_4 (F 3 1) (A 6) 12 0 0) := hT.symm
  clear hT
  refine w_m (E := mm107) rfl ?_
  show wl_E f f (D - 1) mm107.2.2.2.2.2.2.2.2 0 [some (.ref 3), none, none] [] (hz F A L) Q
  refine w_n 4 (pc1 := 4) (ls1 := [some (.ref 3), some (.int 0), some (.int 0)]) (st1 := []) (hp1 := (hz F A L)) rfl ?_
  refine t_kt_allBiscuits_4 12 (show (12 : Nat) = (12 - (0 : Int32).toInt).toNat by have e0 : (0 : Int32).toInt = 0 := rfl; first | rfl | omega) ?_
  intro r1
  show wl_E f _ _ mm107.2.2.2.2.2.2.2.2 33 [some (.ref 3), some (.int (kt_allBiscuits_4 (F 3 1) (A 6) 12 0 0)), some (.int r1)] [] (hz F A L) _
  generalize hG72 : (kt_allBiscuits_4 (F 3 1) (A 6) 12 0 0) = G72 at hE ⊢
  refine w_n 1 (pc1 := 34) (ls1 := [some (.ref 3), some (.int G72), some (.int r1)]) (st1 := [.int G72]) (hp1 := (hz F A L)) rfl ?_
  subst T
  exact w_ri rfl (cvQ rfl rfl rfl K)
def kjm_abs (x0 : Int32) : Int32 := (if x0.toInt < 0 then (-x0) else x0)
theorem t_kjm_abs {f D : Nat} {F : Nat → Nat → Int32} {A : Nat → List Int32} {L : Nat → List Int64} {Q : Option Value → sm_H → Prop} {x0 : Int32} (K : Q (some (.int (kjm_abs x0))) (hz F A L)) : wl_M f D 130 [.int x0] (hz F A L) Q := by
  generalize hT : (kjm_abs x0) = T at K
  have hE : T = (if x0.toInt < 0 then (-x0) else x0) := hT.symm
  clear hT
  refine w_m (E := mm130) rfl ?_
  show wl_E f f (D - 1) mm130.2.2.2.2.2.2.2.2 0 [some (.int x0)] [] (hz F A L) Q
  refine w_n 1 (pc1 := 1) (ls1 := [some (.int x0)]) (st1 := [.int x0]) (hp1 := (hz F A L)) rfl ?_
  refine w_zge (p3 := 4) rfl rfl (fun h => ?_) (fun h => ?_)
  · have h1 : 0 ≤ x0.toInt := h
    rw [if_neg (Int.not_lt.mpr h1)] at hE
    refine w_n 1 (pc1 := 10) (ls1 := [some (.int x0)]) (st1 := [.int x0]) (hp1 := (hz F A L)) rfl ?_
    subst T
    exact w_ri rfl (cvQ rfl rfl rfl K)
  · have h1 : x0.toInt < 0 := h
    rw [if_pos h1] at hE
    refine w_n 3 (pc1 := 10) (ls1 := [some (.int x0)]) (st1 := [.int (-x0)]) (hp1 := (hz F A L)) rfl ?_
    subst T
    exact w_ri rfl (cvQ rfl rfl rfl K)
def kt_amountBetweenHalves (f3_1 : Int32) (a4 : List Int32) (a6 : List Int32) (x1 : Int32) : Int32 := (kjm_abs ((kt_allBiscuits f3_1 a6) - (2 * (kt_amountBetweenHalves_4 a4 a6 x1 6 0 0))))
theorem t_kt_amountBetweenHalves {f D : Nat} {F : Nat → Nat → Int32} {A : Nat → List Int32} {L : Nat → List Int64} {Q : Option Value → sm_H → Prop} {x1 : Int32} (K : Q (some (.int (kt_amountBetweenHalves (F 3 1) (A 4) (A 6) x1))) (hz F A L)) : wl_M f D 129 [.ref 3, .int x1] (hz F A L) Q := by
  generalize hT : (kt_amountBetweenHalves (F 3 1) (A 4) (A 6) x1) = T at K
  have hE : T = (kjm_abs ((kt_allBiscuits (F 3 1) (A 6)) - (2 * (kt_amountBetweenHalves_4 (A 4) (A 6) x1 6 0 0)))) := hT.symm
  clear hT
  refine w_m (E := mm129) rfl ?_
  show wl_E f f (D - 1) mm129.2.2.2.2.2.2.2.2 0 [some (.ref 3), some (.int x1), none, none, none] [] (hz F A L) Q
  refine w_n 4 (pc1 := 4) (ls1 := [some (.ref 3), some (.int x1), some (.int 0), some (.int 0), none]) (st1 := []) (hp1 := (hz F A L)) rfl ?_
  refine t_kt_amountBetweenHalves_4 6 (show (6 : Nat) = (6 - (0 : Int32).toInt).toNat by have e0 : (0 : Int32).toInt = 0 := rfl; first | rfl | omega) ?_
  intro r1 r2
  show wl_E f _ _ mm129.2.2.2.2.2.2.2.2 45 [some (.ref 3), some (.int x1), some (.int (kt_amountBetweenHalves_4 (A 4) (A 6) x1 6 0 0)), some (.int r1), r2] [] (hz F A L) _
  generalize hG70 : (kt_amountBetweenHalves_4 (A 4) (A 6) x1 6 0 0) = G70 at hE ⊢
  refine w_n 1 (pc1 := 46) (ls1 := [some (.ref 3), some (.int x1), some (.int G70), some (.int r1), r2]) (st1 := [.ref 3]) (hp1 := (hz F A L)) rfl ?_
  refine w_c rfl rfl (t_kt_allBiscuits ?_)
  show wl_E f _ _ mm129.2.2.2.2.2.2.2.2 49 [some (.ref 3), some (.int x1), some (.int G70), some (.int r1), r2] [.int (kt_allBiscuits (F 3 1) (A 6))] (hz F A L) _
  generalize hG73 : (kt_allBiscuits (F 3 1) (A 6)) = G73 at hE ⊢
  refine w_n 4 (pc1 := 53) (ls1 := [some (.ref 3), some (.int x1), some (.int G70), some (.int r1), r2]) (st1 := [.int (G73 - (2 * G70))]) (hp1 := (hz F A L)) rfl ?_
  refine w_c rfl rfl (t_kjm_abs ?_)
  show wl_E f _ _ mm129.2.2.2.2.2.2.2.2 56 [some (.ref 3), some (.int x1), some (.int G70), some (.int r1), r2] [.int (kjm_abs (G73 - (2 * G70)))] (hz F A L) _
  generalize hG74 : (kjm_abs (G73 - (2 * G70))) = G74 at hE ⊢
  subst T
  exact w_ri rfl (cvQ rfl rfl rfl K)
def kc_parted_25 (f3_1 : Int32) (a4 : List Int32) (a6 : List Int32)  : Nat → Int32 → Int32 → Int32 → Int32 × Int32
  | 0, y2, y3, _ => (y2, y3)
  | m + 1, y2, y3, y4 => (if (kt_amountBetweenHalves f3_1 a4 a6 y4).toInt < y3.toInt then (kc_parted_25 f3_1 a4 a6 m y4 (kt_amountBetweenHalves f3_1 a4 a6 y4) (y4 + 1)) else (kc_parted_25 f3_1 a4 a6 m y2 y3 (y4 + 1)))
theorem t_kc_parted_25 {f : Nat} {Q : Option Value → sm_H → Prop} : ∀ (m : Nat) {B D : Nat} {F : Nat → Nat → Int32} {A : Nat → List Int32} {L : Nat → List Int64} {x1 : Int32} {y2 : Int32} {y3 : Int32} {y4 : Int32} {o5 : Option Value}, m = (6 - y4.toInt).toNat → (∀ q4 : Int32, ∀ q5 : Option Value, wl_E f B D mm128.2.2.2.2.2.2.2.2 61 [some (.ref 0), some (.int x1), some (.int ((kc_parted_25 (F 3 1) (A 4) (A 6) m y2 y3 y4).1)), some (.int ((kc_parted_25 (F 3 1) (A 4) (A 6) m y2 y3 y4).2)), some (.int q4), q5] [] (hz F A L) Q) → wl_E f B D mm128.2.2.2.2.2.2.2.2 25 [some (.ref 0), some (.int x1), some (.int y2), some (.int y3), some (.int y4), o5] [] (hz F A L) Q := by
  intro m
  induction m with
  | zero =>
    intro B D F A L x1 y2 y3 y4 o5 hm K
    generalize hT : (kc_parted_25 (F 3 1) (A 4) (A 6) 0 y2 y3 y4) = T at K
    have hE : T = (y2, y3) := hT.symm
    clear hT
    refine w_n 2 (pc1 := 29) (ls1 := [some (.ref 0), some (.int x1), some (.int y2), some (.int y3), some (.int y4), o5]) (st1 := [.int 6, .int y4]) (hp1 := (hz F A L)) rfl ?_
    refine w_ge (p3 := 32) rfl rfl (fun hb => ?_) (fun h => False.elim (by have h : y4.toInt < 6 := h; omega))
    subst T
    exact cvE rfl rfl rfl (K _ _)
  | succ m ih =>
    intro B D F A L x1 y2 y3 y4 o5 hm K
    generalize hT : (kc_parted_25 (F 3 1) (A 4) (A 6) (m + 1) y2 y3 y4) = T at K
    have hE : T = (if (kt_amountBetweenHalves (F 3 1) (A 4) (A 6) y4).toInt < y3.toInt then (kc_parted_25 (F 3 1) (A 4) (A 6) m y4 (kt_amountBetweenHalves (F 3 1) (A 4) (A 6) y4) (y4 + 1)) else (kc_parted_25 (F 3 1) (A 4) (A 6) m y2 y3 (y4 + 1))) := hT.symm
    clear hT
    refine w_n 2 (pc1 := 29) (ls1 := [some (.ref 0), some (.int x1), some (.int y2), some (.int y3), some (.int y4), o5]) (st1 := [.int 6, .int y4]) (hp1 := (hz F A L)) rfl ?_
    refine w_ge (p3 := 32) rfl rfl (fun h => False.elim (by have h : 6 ≤ y4.toInt := h; omega)) (fun hb => ?_)
    refine w_n 3 (pc1 := 38) (ls1 := [some (.ref 0), some (.int x1), some (.int y2), some (.int y3), some (.int y4), o5]) (st1 := [.int y4, .ref 3]) (hp1 := (hz F A L)) rfl ?_
    refine w_c rfl rfl (t_kt_amountBetweenHalves ?_)
    show wl_E f _ _ mm128.2.2.2.2.2.2.2.2 41 [some (.ref 0), some (.int x1), some (.int y2), some (.int y3), some (.int y4), o5] [.int (kt_amountBetweenHalves (F 3 1) (A 4) (A 6) y4)] (hz F A L) _
    generalize hG76 : (kt_amountBetweenHalves (F 3 1) (A 4) (A 6) y4) = G76 at hE ⊢
    refine w_n 3 (pc1 := 46) (ls1 := [some (.ref 0), some (.int x1), some (.int y2), some (.int y3), some (.int y4), some (.int G76)]) (st1 := [.int y3, .int G76]) (hp1 := (hz F A L)) rfl ?_
    refine w_ge (p3 := 49) rfl rfl (fun h => ?_) (fun h => ?_)
    · have h1 : y3.toInt ≤ G76.toInt := h
      rw [if_neg (Int.not_lt.mpr h1)] at hE
      refine w_n 2 (pc1 := 25) (ls1 := [some (.ref 0), some (.int x1), some (.int y2), some (.int y3), some (.int (y4 + 1)), some (.int G76)]) (st1 := []) (hp1 := (hz F A L)) rfl ?_
      subst T
      have hb2 := i_up (B := (6 : Int32)) hb
      have hb3 : y4.toInt < 6 := hb
      exact ih (show m = (6 - (y4 + 1).toInt).toNat by rw [hb2]; omega) (fun q4 q5 => cvE rfl rfl rfl (K q4 q5))
    · have h1 : G76.toInt < y3.toInt := h
      rw [if_pos h1] at hE
      refine w_n 6 (pc1 := 25) (ls1 := [some (.ref 0), some (.int x1), some (.int y4), some (.int G76), some (.int (y4 + 1)), some (.int G76)]) (st1 := []) (hp1 := (hz F A L)) rfl ?_
      subst T
      have hb2 := i_up (B := (6 : Int32)) hb
      have hb3 : y4.toInt < 6 := hb
      exact ih (show m = (6 - (y4 + 1).toInt).toNat by rw [hb2]; omega) (fun q4 q5 => cvE rfl rfl rfl (K q4 q5))
def kc_parted (f3_1 : Int32) (a4 : List Int32) (a6 : List Int32) (x1 : Int32) : Int32 := (if (kc_within x1 0 1) = 0 then (-1) else (if x1 = 0 then (kc_parted_25 f3_1 a4 a6 5 0 (kt_amountBetweenHalves f3_1 a4 a6 0) 1).1 else (kc_parted_25 f3_1 a4 a6 5 0 (kt_amountBetweenHalves f3_1 a4 a6 0) 1).2))
theorem t_kc_parted {f D : Nat} {F : Nat → Nat → Int32} {A : Nat → List Int32} {L : Nat → List Int64} {Q : Option Value → sm_H → Prop} {x1 : Int32} (K : Q (some (.int (kc_parted (F 3 1) (A 4) (A 6) x1))) (hz F A L)) : wl_M f D 128 [.ref 0, .int x1] (hz F A L) Q := by
  generalize hT : (kc_parted (F 3 1) (A 4) (A 6) x1) = T at K
  have hE : T = (if (kc_within x1 0 1) = 0 then (-1) else (if x1 = 0 then (kc_parted_25 (F 3 1) (A 4) (A 6) 5 0 (kt_amountBetweenHalves (F 3 1) (A 4) (A 6) 0) 1).1 else (kc_parted_25 (F 3 1) (A 4) (A 6) 5 0 (kt_amountBetweenHalves (F 3 1) (A 4) (A 6) 0) 1).2)) := hT.symm
  clear hT
  refine w_m (E := mm128) rfl ?_
  show wl_E f f (D - 1) mm128.2.2.2.2.2.2.2.2 0 [some (.ref 0), some (.int x1), none, none, none, none] [] (hz F A L) Q
  refine w_n 3 (pc1 := 3) (ls1 := [some (.ref 0), some (.int x1), none, none, none, none]) (st1 := [.int 1, .int 0, .int x1]) (hp1 := (hz F A L)) rfl ?_
  refine w_c rfl rfl (t_kc_within ?_)
  show wl_E f _ _ mm128.2.2.2.2.2.2.2.2 6 [some (.ref 0), some (.int x1), none, none, none, none] [.int (kc_within x1 0 1)] (hz F A L) _
  generalize hG69 : (kc_within x1 0 1) = G69 at hE ⊢
  refine w_zne (p3 := 9) rfl rfl (fun h => ?_) (fun h => ?_)
  · have h1 : ¬ G69 = 0 := h
    rw [if_neg h1] at hE
    refine w_n 5 (pc1 := 18) (ls1 := [some (.ref 0), some (.int x1), some (.int 0), none, none, none]) (st1 := [.int 0, .ref 3]) (hp1 := (hz F A L)) rfl ?_
    refine w_c rfl rfl (t_kt_amountBetweenHalves ?_)
    show wl_E f _ _ mm128.2.2.2.2.2.2.2.2 21 [some (.ref 0), some (.int x1), some (.int 0), none, none, none] [.int (kt_amountBetweenHalves (F 3 1) (A 4) (A 6) 0)] (hz F A L) _
    generalize hG75 : (kt_amountBetweenHalves (F 3 1) (A 4) (A 6) 0) = G75 at hE ⊢
    refine w_n 3 (pc1 := 25) (ls1 := [some (.ref 0), some (.int x1), some (.int 0), some (.int G75), some (.int 1), none]) (st1 := []) (hp1 := (hz F A L)) rfl ?_
    refine t_kc_parted_25 5 (show (5 : Nat) = (6 - (1 : Int32).toInt).toNat by have e0 : (1 : Int32).toInt = 1 := rfl; first | rfl | omega) ?_
    intro r1 r2
    show wl_E f _ _ mm128.2.2.2.2.2.2.2.2 61 [some (.ref 0), some (.int x1), some (.int (kc_parted_25 (F 3 1) (A 4) (A 6) 5 0 G75 1).1), some (.int (kc_parted_25 (F 3 1) (A 4) (A 6) 5 0 G75 1).2), some (.int r1), r2] [] (hz F A L) _
    generalize hG77 : (kc_parted_25 (F 3 1) (A 4) (A 6) 5 0 G75 1) = G77 at hE ⊢
    refine w_n 1 (pc1 := 62) (ls1 := [some (.ref 0), some (.int x1), some (.int G77.1), some (.int G77.2), some (.int r1), r2]) (st1 := [.int x1]) (hp1 := (hz F A L)) rfl ?_
    refine w_zne (p3 := 65) rfl rfl (fun h => ?_) (fun h => ?_)
    · have h2 : ¬ x1 = 0 := h
      rw [if_neg h2] at hE
      refine w_n 1 (pc1 := 70) (ls1 := [some (.ref 0), some (.int x1), some (.int G77.1), some (.int G77.2), some (.int r1), r2]) (st1 := [.int G77.2]) (hp1 := (hz F A L)) rfl ?_
      subst T
      exact w_ri rfl (cvQ rfl rfl rfl K)
    · have h2 : x1 = 0 := h
      rw [if_pos h2] at hE
      refine w_n 2 (pc1 := 70) (ls1 := [some (.ref 0), some (.int x1), some (.int G77.1), some (.int G77.2), some (.int r1), r2]) (st1 := [.int G77.1]) (hp1 := (hz F A L)) rfl ?_
      subst T
      exact w_ri rfl (cvQ rfl rfl rfl K)
  · have h1 : G69 = 0 := h
    rw [if_pos h1] at hE
    refine w_n 1 (pc1 := 10) (ls1 := [some (.ref 0), some (.int x1), none, none, none, none]) (st1 := [.int (-1)]) (hp1 := (hz F A L)) rfl ?_
    subst T
    exact w_ri rfl (cvQ rfl rfl rfl K)
def km_apartBy_4 (a68 : List Int32) (x1 : Int32) : Nat → Int32 → Int32 → Int32
  | 0, y2, _ => y2
  | m + 1, y2, y3 => (if (km_isGuest a68 y3) = 0 then (km_apartBy_4 a68 x1 m y2 (y3 + 1)) else (if ((((a68.getD (0 + y3).toInt.toNat 0) - x1) + 12) - (((a68.getD (0 + y3).toInt.toNat 0) - x1) + 12) / 12 * 12).toInt < 6 then (km_apartBy_4 a68 x1 m (y2 + (a68.getD (12 + y3).toInt.toNat 0)) (y3 + 1)) else (km_apartBy_4 a68 x1 m (y2 + (-(a68.getD (12 + y3).toInt.toNat 0))) (y3 + 1))))
theorem t_km_apartBy_4 {f : Nat} {Q : Option Value → sm_H → Prop} : ∀ (m : Nat) {B D : Nat} {F : Nat → Nat → Int32} {A : Nat → List Int32} {L : Nat → List Int64} {x1 : Int32} {y2 : Int32} {y3 : Int32} {o4 : Option Value}, m = (12 - y3.toInt).toNat → (∀ q3 : Int32, ∀ q4 : Option Value, wl_E f B D mm241.2.2.2.2.2.2.2.2 85 [some (.ref 67), some (.int x1), some (.int (km_apartBy_4 (A 68) x1 m y2 y3)), some (.int q3), q4] [] (hz F A L) Q) → wl_E f B D mm241.2.2.2.2.2.2.2.2 4 [some (.ref 67), some (.int x1), some (.int y2), some (.int y3), o4] [] (hz F A L) Q := by
  intro m
  induction m with
  | zero =>
    intro B D F A L x1 y2 y3 o4 hm K
    generalize hT : (km_apartBy_4 (A 68) x1 0 y2 y3) = T at K
    have hE : T = y2 := hT.symm
    clear hT
    refine w_n 2 (pc1 := 7) (ls1 := [some (.ref 67), some (.int x1), some (.int y2), some (.int y3), o4]) (st1 := [.int 12, .int y3]) (hp1 := (hz F A L)) rfl ?_
    refine w_ge (p3 := 10) rfl rfl (fun hb => ?_) (fun h => False.elim (by have h : y3.toInt < 12 := h; omega))
    subst T
    exact cvE rfl rfl rfl (K _ _)
  | succ m ih =>
    intro B D F A L x1 y2 y3 o4 hm K
    generalize hT : (km_apartBy_4 (A 68) x1 (m + 1) y2 y3) = T at K
    have hE : T = (if (km_isGuest (A 68) y3) = 0 then (km_apartBy_4 (A 68) x1 m y2 (y3 + 1)) else (if (((((A 68).getD (0 + y3).toInt.toNat 0) - x1) + 12) - ((((A 68).getD (0 + y3).toInt.toNat 0) - x1) + 12) / 12 * 12).toInt < 6 then (km_apartBy_4 (A 68) x1 m (y2 + ((A 68).getD (12 + y3).toInt.toNat 0)) (y3 + 1)) else (km_apartBy_4 (A 68) x1 m (y2 + (-((A 68).getD (12 + y3).toInt.toNat 0))) (y3 + 1)))) := hT.symm
    clear hT
    refine w_n 2 (pc1 := 7) (ls1 := [some (.ref 67), some (.int x1), some (.int y2), some (.int y3), o4]) (st1 := [.int 12, .int y3]) (hp1 := (hz F A L)) rfl ?_
    refine w_ge (p3 := 10) rfl rfl (fun h => False.elim (by have h : 12 ≤ y3.toInt := h; omega)) (fun hb => ?_)
    refine w_n 2 (pc1 := 12) (ls1 := [some (.ref 67), some (.int x1), some (.int y2), some (.int y3), o4]) (st1 := [.int y3, .ref 67]) (hp1 := (hz F A L)) rfl ?_
    refine w_c rfl rfl (t_km_isGuest ?_)
    show wl_E f _ _ mm241.2.2.2.2.2.2.2.2 15 [some (.ref 67), some (.int x1), some (.int y2), some (.int y3), o4] [.int (km_isGuest (A 68) y3)] (hz F A L) _
    generalize hG79 : (km_isGuest (A 68) y3) = G79 at hE ⊢
    refine w_zne (p3 := 18) rfl rfl (fun h => ?_) (fun h => ?_)
    · have h1 : ¬ G79 = 0 := h
      rw [if_neg h1] at hE
      refine w_n 5 (pc1 := 28) (ls1 := [some (.ref 67), some (.int x1), some (.int y2), some (.int y3), o4]) (st1 := [.int (0 + y3), .ref 68]) (hp1 := (hz F A L)) rfl ?_
      refine w_al (k := 68) (l := (A 68)) rfl rfl rfl (fun _ => ?_)
      refine w_n 5 (pc1 := 36) (ls1 := [some (.ref 67), some (.int x1), some (.int y2), some (.int y3), o4]) (st1 := [.int 12, .int ((((A 68).getD (0 + y3).toInt.toNat 0) - x1) + 12)]) (hp1 := (hz F A L)) rfl ?_
      refine w_rm rfl rfl (fun _ => ?_)
      refine w_n 1 (pc1 := 39) (ls1 := [some (.ref 67), some (.int x1), some (.int y2), some (.int y3), o4]) (st1 := [.int 6, .int (((((A 68).getD (0 + y3).toInt.toNat 0) - x1) + 12) - ((((A 68).getD (0 + y3).toInt.toNat 0) - x1) + 12) / 12 * 12)]) (hp1 := (hz F A L)) rfl ?_
      refine w_ge (p3 := 42) rfl rfl (fun h => ?_) (fun h => ?_)
      · have h2 : 6 ≤ (((((A 68).getD (0 + y3).toInt.toNat 0) - x1) + 12) - ((((A 68).getD (0 + y3).toInt.toNat 0) - x1) + 12) / 12 * 12).toInt := h
        rw [if_neg (Int.not_lt.mpr h2)] at hE
        refine w_n 4 (pc1 := 52) (ls1 := [some (.ref 67), some (.int x1), some (.int y2), some (.int y3), some (.int 0)]) (st1 := [.int 0, .int y2]) (hp1 := (hz F A L)) rfl ?_
        refine w_zeq (p3 := 55) rfl rfl (fun _ => ?_) (fun h => absurd h (by decide))
        refine w_n 5 (pc1 := 75) (ls1 := [some (.ref 67), some (.int x1), some (.int y2), some (.int y3), some (.int 0)]) (st1 := [.int (12 + y3), .ref 68, .int y2]) (hp1 := (hz F A L)) rfl ?_
        refine w_al (k := 68) (l := (A 68)) rfl rfl rfl (fun _ => ?_)
        refine w_n 5 (pc1 := 4) (ls1 := [some (.ref 67), some (.int x1), some (.int (y2 + (-((A 68).getD (12 + y3).toInt.toNat 0)))), some (.int (y3 + 1)), some (.int 0)]) (st1 := []) (hp1 := (hz F A L)) rfl ?_
        subst T
        have hb2 := i_up (B := (12 : Int32)) hb
        have hb3 : y3.toInt < 12 := hb
        exact ih (show m = (12 - (y3 + 1).toInt).toNat by rw [hb2]; omega) (fun q3 q4 => cvE rfl rfl rfl (K q3 q4))
      · have h2 : (((((A 68).getD (0 + y3).toInt.toNat 0) - x1) + 12) - ((((A 68).getD (0 + y3).toInt.toNat 0) - x1) + 12) / 12 * 12).toInt < 6 := h
        rw [if_pos h2] at hE
        refine w_n 5 (pc1 := 52) (ls1 := [some (.ref 67), some (.int x1), some (.int y2), some (.int y3), some (.int 1)]) (st1 := [.int 1, .int y2]) (hp1 := (hz F A L)) rfl ?_
        refine w_zeq (p3 := 55) rfl rfl (fun h => absurd h (by decide)) (fun _ => ?_)
        refine w_n 5 (pc1 := 63) (ls1 := [some (.ref 67), some (.int x1), some (.int y2), some (.int y3), some (.int 1)]) (st1 := [.int (12 + y3), .ref 68, .int y2]) (hp1 := (hz F A L)) rfl ?_
        refine w_al (k := 68) (l := (A 68)) rfl rfl rfl (fun _ => ?_)
        refine w_n 5 (pc1 := 4) (ls1 := [some (.ref 67), some (.int x1), some (.int (y2 + ((A 68).getD (12 + y3).toInt.toNat 0))), some (.int (y3 + 1)), some (.int 1)]) (st1 := []) (hp1 := (hz F A L)) rfl ?_
        subst T
        have hb2 := i_up (B := (12 : Int32)) hb
        have hb3 : y3.toInt < 12 := hb
        exact ih (show m = (12 - (y3 + 1).toInt).toNat by rw [hb2]; omega) (fun q3 q4 => cvE rfl rfl rfl (K q3 q4))
    · have h1 : G79 = 0 := h
      rw [if_pos h1] at hE
      refine w_n 3 (pc1 := 4) (ls1 := [some (.ref 67), some (.int x1), some (.int y2), some (.int (y3 + 1)), o4]) (st1 := []) (hp1 := (hz F A L)) rfl ?_
      subst T
      have hb2 := i_up (B := (12 : Int32)) hb
      have hb3 : y3.toInt < 12 := hb
      exact ih (show m = (12 - (y3 + 1).toInt).toNat by rw [hb2]; omega) (fun q3 q4 => cvE rfl rfl rfl (K q3 q4))
def km_size (x0 : Int32) : Int32 := (if x0.toInt < 0 then (-x0) else x0)
theorem t_km_size {f D : Nat} {F : Nat → Nat → Int32} {A : Nat → List Int32} {L : Nat → List Int64} {Q : Option Value → sm_H → Prop} {x0 : Int32} (K : Q (some (.int (km_size x0))) (hz F A L)) : wl_M f D 242 [.int x0] (hz F A L) Q := by
  generalize hT : (km_size x0) = T at K
  have hE : T = (if x0.toInt < 0 then (-x0) else x0) := hT.symm
  clear hT
  refine w_m (E := mm242) rfl ?_
  show wl_E f f (D - 1) mm242.2.2.2.2.2.2.2.2 0 [some (.int x0)] [] (hz F A L) Q
  refine w_n 1 (pc1 := 1) (ls1 := [some (.int x0)]) (st1 := [.int x0]) (hp1 := (hz F A L)) rfl ?_
  refine w_zge (p3 := 4) rfl rfl (fun h => ?_) (fun h => ?_)
  · have h1 : 0 ≤ x0.toInt := h
    rw [if_neg (Int.not_lt.mpr h1)] at hE
    refine w_n 1 (pc1 := 10) (ls1 := [some (.int x0)]) (st1 := [.int x0]) (hp1 := (hz F A L)) rfl ?_
    subst T
    exact w_ri rfl (cvQ rfl rfl rfl K)
  · have h1 : x0.toInt < 0 := h
    rw [if_pos h1] at hE
    refine w_n 3 (pc1 := 10) (ls1 := [some (.int x0)]) (st1 := [.int (-x0)]) (hp1 := (hz F A L)) rfl ?_
    subst T
    exact w_ri rfl (cvQ rfl rfl rfl K)
def km_apartBy (a68 : List Int32) (x1 : Int32) : Int32 := (km_size (km_apartBy_4 a68 x1 12 0 0))
theorem t_km_apartBy {f D : Nat} {F : Nat → Nat → Int32} {A : Nat → List Int32} {L : Nat → List Int64} {Q : Option Value → sm_H → Prop} {x1 : Int32} (K : Q (some (.int (km_apartBy (A 68) x1))) (hz F A L)) : wl_M f D 241 [.ref 67, .int x1] (hz F A L) Q := by
  generalize hT : (km_apartBy (A 68) x1) = T at K
  have hE : T = (km_size (km_apartBy_4 (A 68) x1 12 0 0)) := hT.symm
  clear hT
  refine w_m (E := mm241) rfl ?_
  show wl_E f f (D - 1) mm241.2.2.2.2.2.2.2.2 0 [some (.ref 67), some (.int x1), none, none, none] [] (hz F A L) Q
  refine w_n 4 (pc1 := 4) (ls1 := [some (.ref 67), some (.int x1), some (.int 0), some (.int 0), none]) (st1 := []) (hp1 := (hz F A L)) rfl ?_
  refine t_km_apartBy_4 12 (show (12 : Nat) = (12 - (0 : Int32).toInt).toNat by have e0 : (0 : Int32).toInt = 0 := rfl; first | rfl | omega) ?_
  intro r1 r2
  show wl_E f _ _ mm241.2.2.2.2.2.2.2.2 85 [some (.ref 67), some (.int x1), some (.int (km_apartBy_4 (A 68) x1 12 0 0)), some (.int r1), r2] [] (hz F A L) _
  generalize hG80 : (km_apartBy_4 (A 68) x1 12 0 0) = G80 at hE ⊢
  refine w_n 1 (pc1 := 86) (ls1 := [some (.ref 67), some (.int x1), some (.int G80), some (.int r1), r2]) (st1 := [.int G80]) (hp1 := (hz F A L)) rfl ?_
  refine w_c rfl rfl (t_km_size ?_)
  show wl_E f _ _ mm241.2.2.2.2.2.2.2.2 89 [some (.ref 67), some (.int x1), some (.int G80), some (.int r1), r2] [.int (km_size G80)] (hz F A L) _
  generalize hG81 : (km_size G80) = G81 at hE ⊢
  subst T
  exact w_ri rfl (cvQ rfl rfl rfl K)
def km_parted_15 (a68 : List Int32)  : Nat → Int32 → Int32 → Int32
  | 0, y2, _ => y2
  | m + 1, y2, y3 => (if (km_apartBy a68 y3).toInt < (km_apartBy a68 y2).toInt then (km_parted_15 a68 m y3 (y3 + 1)) else (km_parted_15 a68 m y2 (y3 + 1)))
theorem t_km_parted_15 {f : Nat} {Q : Option Value → sm_H → Prop} : ∀ (m : Nat) {B D : Nat} {F : Nat → Nat → Int32} {A : Nat → List Int32} {L : Nat → List Int64} {x1 : Int32} {y2 : Int32} {y3 : Int32}, m = (6 - y3.toInt).toNat → (∀ q3 : Int32, wl_E f B D mm240.2.2.2.2.2.2.2.2 42 [some (.ref 67), some (.int x1), some (.int (km_parted_15 (A 68) m y2 y3)), some (.int q3)] [] (hz F A L) Q) → wl_E f B D mm240.2.2.2.2.2.2.2.2 15 [some (.ref 67), some (.int x1), some (.int y2), some (.int y3)] [] (hz F A L) Q := by
  intro m
  induction m with
  | zero =>
    intro B D F A L x1 y2 y3 hm K
    generalize hT : (km_parted_15 (A 68) 0 y2 y3) = T at K
    have hE : T = y2 := hT.symm
    clear hT
    refine w_n 2 (pc1 := 18) (ls1 := [some (.ref 67), some (.int x1), some (.int y2), some (.int y3)]) (st1 := [.int 6, .int y3]) (hp1 := (hz F A L)) rfl ?_
    refine w_ge (p3 := 21) rfl rfl (fun hb => ?_) (fun h => False.elim (by have h : y3.toInt < 6 := h; omega))
    subst T
    exact cvE rfl rfl rfl (K _)
  | succ m ih =>
    intro B D F A L x1 y2 y3 hm K
    generalize hT : (km_parted_15 (A 68) (m + 1) y2 y3) = T at K
    have hE : T = (if (km_apartBy (A 68) y3).toInt < (km_apartBy (A 68) y2).toInt then (km_parted_15 (A 68) m y3 (y3 + 1)) else (km_parted_15 (A 68) m y2 (y3 + 1))) := hT.symm
    clear hT
    refine w_n 2 (pc1 := 18) (ls1 := [some (.ref 67), some (.int x1), some (.int y2), some (.int y3)]) (st1 := [.int 6, .int y3]) (hp1 := (hz F A L)) rfl ?_
    refine w_ge (p3 := 21) rfl rfl (fun h => False.elim (by have h : 6 ≤ y3.toInt := h; omega)) (fun hb => ?_)
    refine w_n 2 (pc1 := 23) (ls1 := [some (.ref 67), some (.int x1), some (.int y2), some (.int y3)]) (st1 := [.int y3, .ref 67]) (hp1 := (hz F A L)) rfl ?_
    refine w_c rfl rfl (t_km_apartBy ?_)
    show wl_E f _ _ mm240.2.2.2.2.2.2.2.2 26 [some (.ref 67), some (.int x1), some (.int y2), some (.int y3)] [.int (km_apartBy (A 68) y3)] (hz F A L) _
    generalize hG82 : (km_apartBy (A 68) y3) = G82 at hE ⊢
    refine w_n 2 (pc1 := 28) (ls1 := [some (.ref 67), some (.int x1), some (.int y2), some (.int y3)]) (st1 := [.int y2, .ref 67, .int G82]) (hp1 := (hz F A L)) rfl ?_
    refine w_c rfl rfl (t_km_apartBy ?_)
    show wl_E f _ _ mm240.2.2.2.2.2.2.2.2 31 [some (.ref 67), some (.int x1), some (.int y2), some (.int y3)] [.int (km_apartBy (A 68) y2), .int G82] (hz F A L) _
    generalize hG83 : (km_apartBy (A 68) y2) = G83 at hE ⊢
    refine w_ge (p3 := 34) rfl rfl (fun h => ?_) (fun h => ?_)
    · have h1 : G83.toInt ≤ G82.toInt := h
      rw [if_neg (Int.not_lt.mpr h1)] at hE
      refine w_n 2 (pc1 := 15) (ls1 := [some (.ref 67), some (.int x1), some (.int y2), some (.int (y3 + 1))]) (st1 := []) (hp1 := (hz F A L)) rfl ?_
      subst T
      have hb2 := i_up (B := (6 : Int32)) hb
      have hb3 : y3.toInt < 6 := hb
      exact ih (show m = (6 - (y3 + 1).toInt).toNat by rw [hb2]; omega) (fun q3 => cvE rfl rfl rfl (K q3))
    · have h1 : G82.toInt < G83.toInt := h
      rw [if_pos h1] at hE
      refine w_n 4 (pc1 := 15) (ls1 := [some (.ref 67), some (.int x1), some (.int y3), some (.int (y3 + 1))]) (st1 := []) (hp1 := (hz F A L)) rfl ?_
      subst T
      have hb2 := i_up (B := (6 : Int32)) hb
      have hb3 : y3.toInt < 6 := hb
      exact ih (show m = (6 - (y3 + 1).toInt).toNat by rw [hb2]; omega) (fun q3 => cvE rfl rfl rfl (K q3))
def km_parted (a68 : List Int32) (x1 : Int32) : Int32 := (if (km_in x1 0 1) = 0 then (-1) else (if x1 = 0 then (km_parted_15 a68 5 0 1) else (km_apartBy a68 (km_parted_15 a68 5 0 1))))
theorem t_km_parted {f D : Nat} {F : Nat → Nat → Int32} {A : Nat → List Int32} {L : Nat → List Int64} {Q : Option Value → sm_H → Prop} {x1 : Int32} (K : Q (some (.int (km_parted (A 68) x1))) (hz F A L)) : wl_M f D 240 [.ref 67, .int x1] (hz F A L) Q := by
  generalize hT : (km_parted (A 68) x1) = T at K
  have hE : T = (if (km_in x1 0 1) = 0 then (-1) else (if x1 = 0 then (km_parted_15 (A 68) 5 0 1) else (km_apartBy (A 68) (km_parted_15 (A 68) 5 0 1)))) := hT.symm
  clear hT
  refine w_m (E := mm240) rfl ?_
  show wl_E f f (D - 1) mm240.2.2.2.2.2.2.2.2 0 [some (.ref 67), some (.int x1), none, none] [] (hz F A L) Q
  refine w_n 3 (pc1 := 3) (ls1 := [some (.ref 67), some (.int x1), none, none]) (st1 := [.int 1, .int 0, .int x1]) (hp1 := (hz F A L)) rfl ?_
  refine w_c rfl rfl (t_km_in ?_)
  show wl_E f _ _ mm240.2.2.2.2.2.2.2.2 6 [some (.ref 67), some (.int x1), none, none] [.int (km_in x1 0 1)] (hz F A L) _
  generalize hG78 : (km_in x1 0 1) = G78 at hE ⊢
  refine w_zne (p3 := 9) rfl rfl (fun h => ?_) (fun h => ?_)
  · have h1 : ¬ G78 = 0 := h
    rw [if_neg h1] at hE
    refine w_n 4 (pc1 := 15) (ls1 := [some (.ref 67), some (.int x1), some (.int 0), some (.int 1)]) (st1 := []) (hp1 := (hz F A L)) rfl ?_
    refine t_km_parted_15 5 (show (5 : Nat) = (6 - (1 : Int32).toInt).toNat by have e0 : (1 : Int32).toInt = 1 := rfl; first | rfl | omega) ?_
    intro r1
    show wl_E f _ _ mm240.2.2.2.2.2.2.2.2 42 [some (.ref 67), some (.int x1), some (.int (km_parted_15 (A 68) 5 0 1)), some (.int r1)] [] (hz F A L) _
    generalize hG84 : (km_parted_15 (A 68) 5 0 1) = G84 at hE ⊢
    refine w_n 1 (pc1 := 43) (ls1 := [some (.ref 67), some (.int x1), some (.int G84), some (.int r1)]) (st1 := [.int x1]) (hp1 := (hz F A L)) rfl ?_
    refine w_zne (p3 := 46) rfl rfl (fun h => ?_) (fun h => ?_)
    · have h2 : ¬ x1 = 0 := h
      rw [if_neg h2] at hE
      refine w_n 2 (pc1 := 52) (ls1 := [some (.ref 67), some (.int x1), some (.int G84), some (.int r1)]) (st1 := [.int G84, .ref 67]) (hp1 := (hz F A L)) rfl ?_
      refine w_c rfl rfl (t_km_apartBy ?_)
      show wl_E f _ _ mm240.2.2.2.2.2.2.2.2 55 [some (.ref 67), some (.int x1), some (.int G84), some (.int r1)] [.int (km_apartBy (A 68) G84)] (hz F A L) _
      generalize hG85 : (km_apartBy (A 68) G84) = G85 at hE ⊢
      subst T
      exact w_ri rfl (cvQ rfl rfl rfl K)
    · have h2 : x1 = 0 := h
      rw [if_pos h2] at hE
      refine w_n 2 (pc1 := 55) (ls1 := [some (.ref 67), some (.int x1), some (.int G84), some (.int r1)]) (st1 := [.int G84]) (hp1 := (hz F A L)) rfl ?_
      subst T
      exact w_ri rfl (cvQ rfl rfl rfl K)
  · have h1 : G78 = 0 := h
    rw [if_pos h1] at hE
    refine w_n 1 (pc1 := 10) (ls1 := [some (.ref 67), some (.int x1), none, none]) (st1 := [.int (-1)]) (hp1 := (hz F A L)) rfl ?_
    subst T
    exact w_ri rfl (cvQ rfl rfl rfl K)
def kja_fill_40_5  (x1 : Int32) : Nat → Int32 → List Int32 → List Int32
  | 0, _, a40 => a40
  | m + 1, y2, a40 => (kja_fill_40_5 x1 m (y2 + 1) (a40.set y2.toInt.toNat x1))
theorem t_kja_fill_40_5 {f : Nat} {Q : Option Value → sm_H → Prop} : ∀ (m : Nat) {B D : Nat} {F : Nat → Nat → Int32} {A : Nat → List Int32} {L : Nat → List Int64} {x1 : Int32} {y2 : Int32} {x3 : Int32}, m = (x3.toInt - y2.toInt).toNat → (∀ q2 : Int32, wl_E f B D mm3.2.2.2.2.2.2.2.2 20 [some (.ref 40), some (.int x1), some (.int q2), some (.int x3)] [] (hz F (uA A 40 (kja_fill_40_5 x1 m y2 (A 40))) L) Q) → wl_E f B D mm3.2.2.2.2.2.2.2.2 5 [some (.ref 40), some (.int x1), some (.int y2), some (.int x3)] [] (hz F A L) Q := by
  intro m
  induction m with
  | zero =>
    intro B D F A L x1 y2 x3 hm K
    generalize hT : (kja_fill_40_5 x1 0 y2 (A 40)) = T at K
    have hE : T = (A 40) := hT.symm
    clear hT
    refine w_n 2 (pc1 := 7) (ls1 := [some (.ref 40), some (.int x1), some (.int y2), some (.int x3)]) (st1 := [.int x3, .int y2]) (hp1 := (hz F A L)) rfl ?_
    refine w_ge (p3 := 10) rfl rfl (fun hb => ?_) (fun h => False.elim (by have h : y2.toInt < x3.toInt := h; omega))
    subst T
    exact cvE rfl (funext fun q => if k0 : q = 40 then by subst k0; exact Eq.trans (b := (A 40)) rfl rfl else by unfold uA; simp only [nb1 k0, cond_false]) rfl (K _)
  | succ m ih =>
    intro B D F A L x1 y2 x3 hm K
    generalize hT : (kja_fill_40_5 x1 (m + 1) y2 (A 40)) = T at K
    have hE : T = (kja_fill_40_5 x1 m (y2 + 1) ((A 40).set y2.toInt.toNat x1)) := hT.symm
    clear hT
    refine w_n 2 (pc1 := 7) (ls1 := [some (.ref 40), some (.int x1), some (.int y2), some (.int x3)]) (st1 := [.int x3, .int y2]) (hp1 := (hz F A L)) rfl ?_
    refine w_ge (p3 := 10) rfl rfl (fun h => False.elim (by have h : x3.toInt ≤ y2.toInt := h; omega)) (fun hb => ?_)
    refine w_n 3 (pc1 := 13) (ls1 := [some (.ref 40), some (.int x1), some (.int y2), some (.int x3)]) (st1 := [.int x1, .int y2, .ref 40]) (hp1 := (hz F A L)) rfl ?_
    refine w_as (k := 40) (l := (A 40)) (hp1 := (hz F (uA A 40 ((A 40).set y2.toInt.toNat x1)) L)) rfl rfl rfl (hz_s40 _) (fun ab => ?_)
    refine w_n 2 (pc1 := 5) (ls1 := [some (.ref 40), some (.int x1), some (.int (y2 + 1)), some (.int x3)]) (st1 := []) (hp1 := (hz F (uA A 40 ((A 40).set y2.toInt.toNat x1)) L)) rfl ?_
    subst T
    have hb2 := i_up (B := x3) hb
    have hb3 : y2.toInt < x3.toInt := hb
    exact ih (show m = (x3.toInt - (y2 + 1).toInt).toNat by rw [hb2]; omega) (fun q2 => cvE rfl (funext fun q => if k0 : q = 40 then by subst k0; exact Eq.trans (b := (kja_fill_40_5 x1 m (y2 + 1) ((A 40).set y2.toInt.toNat x1))) rfl rfl else by unfold uA; simp only [nb1 k0, cond_false]) rfl (K q2))
def kja_fill_40 (a40 : List Int32) (x1 : Int32) : List Int32 := (kja_fill_40_5 x1 ((Int32.ofNat a40.length).toInt).toNat 0 a40)
theorem t_kja_fill_40 {f D : Nat} {F : Nat → Nat → Int32} {A : Nat → List Int32} {L : Nat → List Int64} {Q : Option Value → sm_H → Prop} {x1 : Int32} (K : Q none (hz F (uA A 40 (kja_fill_40 (A 40) x1)) L)) : wl_M f D 3 [.ref 40, .int x1] (hz F A L) Q := by
  generalize hT : (kja_fill_40 (A 40) x1) = T at K
  have hE : T = (kja_fill_40_5 x1 ((Int32.ofNat (A 40).length).toInt).toNat 0 (A 40)) := hT.symm
  clear hT
  refine w_m (E := mm3) rfl ?_
  show wl_E f f (D - 1) mm3.2.2.2.2.2.2.2.2 0 [some (.ref 40), some (.int x1), none, none] [] (hz F A L) Q
  refine w_n 5 (pc1 := 5) (ls1 := [some (.ref 40), some (.int x1), some (.int 0), some (.int (Int32.ofNat (A 40).length))]) (st1 := []) (hp1 := (hz F A L)) rfl ?_
  refine t_kja_fill_40_5 (((Int32.ofNat (A 40).length).toInt).toNat) (show ((Int32.ofNat (A 40).length).toInt).toNat = ((Int32.ofNat (A 40).length).toInt - (0 : Int32).toInt).toNat by have e0 : (0 : Int32).toInt = 0 := rfl; first | rfl | omega) ?_
  intro r1
  show wl_E f _ _ mm3.2.2.2.2.2.2.2.2 20 [some (.ref 40), some (.int x1), some (.int r1), some (.int (Int32.ofNat (A 40).length))] [] (hz F (uA A 40 (kja_fill_40_5 x1 ((Int32.ofNat (A 40).length).toInt).toNat 0 (A 40))) L) _
  generalize hG87 : (kja_fill_40_5 x1 ((Int32.ofNat (A 40).length).toInt).toNat 0 (A 40)) = G87 at hE ⊢
  subst T
  exact w_r rfl rfl (cvQ rfl rfl rfl K)
def kv_beginSets (a40 : List Int32) : List Int32 := ((kja_fill_40 a40 0).set 0 1)
theorem t_kv_beginSets {f D : Nat} {F : Nat → Nat → Int32} {A : Nat → List Int32} {L : Nat → List Int64} {Q : Option Value → sm_H → Prop} (K : Q none (hz F (uA A 40 (kv_beginSets (A 40))) L)) : wl_M f D 105 [.ref 30] (hz F A L) Q := by
  generalize hT : (kv_beginSets (A 40)) = T at K
  have hE : T = ((kja_fill_40 (A 40) 0).set 0 1) := hT.symm
  clear hT
  refine w_m (E := mm105) rfl ?_
  show wl_E f f (D - 1) mm105.2.2.2.2.2.2.2.2 0 [some (.ref 30)] [] (hz F A L) Q
  refine w_n 3 (pc1 := 5) (ls1 := [some (.ref 30)]) (st1 := [.int 0, .ref 40]) (hp1 := (hz F A L)) rfl ?_
  refine w_c rfl rfl (t_kja_fill_40 ?_)
  show wl_E f _ _ mm105.2.2.2.2.2.2.2.2 8 [some (.ref 30)] [] (hz F (uA A 40 (kja_fill_40 (A 40) 0)) L) _
  generalize hG88 : (kja_fill_40 (A 40) 0) = G88 at hE ⊢
  refine w_n 4 (pc1 := 14) (ls1 := [some (.ref 30)]) (st1 := [.int 1, .int 0, .ref 40]) (hp1 := (hz F (uA A 40 G88) L)) rfl ?_
  refine w_as (k := 40) (l := G88) (hp1 := (hz F (uA (uA A 40 G88) 40 (G88.set 0 1)) L)) rfl rfl rfl (hz_s40 _) (fun _ => ?_)
  subst T
  exact w_r rfl rfl (cvQ rfl (funext fun q => if k0 : q = 40 then by subst k0; exact Eq.trans (b := (G88.set 0 1)) rfl rfl else by unfold uA; simp only [nb1 k0, cond_false]) rfl K)
def kv_joinSets_8  (x1 : Int32) : Nat → Int32 → List Int32 → List Int32
  | 0, _, a40 => a40
  | m + 1, y2, a40 => (kv_joinSets_8 x1 m (y2 + (-1)) (a40.set y2.toInt.toNat ((a40.getD y2.toInt.toNat 0) + (a40.getD (y2 - x1).toInt.toNat 0))))
theorem t_kv_joinSets_8 {f : Nat} {Q : Option Value → sm_H → Prop} : ∀ (m : Nat) {B D : Nat} {F : Nat → Nat → Int32} {A : Nat → List Int32} {L : Nat → List Int64} {x1 : Int32} {y2 : Int32}, m = (y2.toInt + 1 - x1.toInt).toNat → (∀ q2 : Int32, wl_E f B D mm106.2.2.2.2.2.2.2.2 36 [some (.ref 30), some (.int x1), some (.int q2)] [] (hz F (uA A 40 (kv_joinSets_8 x1 m y2 (A 40))) L) Q) → wl_E f B D mm106.2.2.2.2.2.2.2.2 8 [some (.ref 30), some (.int x1), some (.int y2)] [] (hz F A L) Q := by
  intro m
  induction m with
  | zero =>
    intro B D F A L x1 y2 hm K
    generalize hT : (kv_joinSets_8 x1 0 y2 (A 40)) = T at K
    have hE : T = (A 40) := hT.symm
    clear hT
    refine w_n 2 (pc1 := 10) (ls1 := [some (.ref 30), some (.int x1), some (.int y2)]) (st1 := [.int x1, .int y2]) (hp1 := (hz F A L)) rfl ?_
    refine w_lt (p3 := 13) rfl rfl (fun hb => ?_) (fun h => False.elim (by have h : x1.toInt ≤ y2.toInt := h; omega))
    subst T
    exact cvE rfl (funext fun q => if k0 : q = 40 then by subst k0; exact Eq.trans (b := (A 40)) rfl rfl else by unfold uA; simp only [nb1 k0, cond_false]) rfl (K _)
  | succ m ih =>
    intro B D F A L x1 y2 hm K
    generalize hT : (kv_joinSets_8 x1 (m + 1) y2 (A 40)) = T at K
    have hE : T = (kv_joinSets_8 x1 m (y2 + (-1)) ((A 40).set y2.toInt.toNat (((A 40).getD y2.toInt.toNat 0) + ((A 40).getD (y2 - x1).toInt.toNat 0)))) := hT.symm
    clear hT
    refine w_n 2 (pc1 := 10) (ls1 := [some (.ref 30), some (.int x1), some (.int y2)]) (st1 := [.int x1, .int y2]) (hp1 := (hz F A L)) rfl ?_
    refine w_lt (p3 := 13) rfl rfl (fun h => False.elim (by have h : y2.toInt < x1.toInt := h; omega)) (fun hb => ?_)
    refine w_n 4 (pc1 := 19) (ls1 := [some (.ref 30), some (.int x1), some (.int y2)]) (st1 := [.int y2, .ref 40, .int y2, .ref 40]) (hp1 := (hz F A L)) rfl ?_
    refine w_al (k := 40) (l := (A 40)) rfl rfl rfl (fun ab => ?_)
    refine w_n 5 (pc1 := 27) (ls1 := [some (.ref 30), some (.int x1), some (.int y2)]) (st1 := [.int (y2 - x1), .ref 40, .int ((A 40).getD y2.toInt.toNat 0), .int y2, .ref 40]) (hp1 := (hz F A L)) rfl ?_
    refine w_al (k := 40) (l := (A 40)) rfl rfl rfl (fun _ => ?_)
    refine w_n 1 (pc1 := 29) (ls1 := [some (.ref 30), some (.int x1), some (.int y2)]) (st1 := [.int (((A 40).getD y2.toInt.toNat 0) + ((A 40).getD (y2 - x1).toInt.toNat 0)), .int y2, .ref 40]) (hp1 := (hz F A L)) rfl ?_
    refine w_as (k := 40) (l := (A 40)) (hp1 := (hz F (uA A 40 ((A 40).set y2.toInt.toNat (((A 40).getD y2.toInt.toNat 0) + ((A 40).getD (y2 - x1).toInt.toNat 0)))) L)) rfl rfl rfl (hz_s40 _) (fun ab => ?_)
    refine w_n 2 (pc1 := 8) (ls1 := [some (.ref 30), some (.int x1), some (.int (y2 + (-1)))]) (st1 := []) (hp1 := (hz F (uA A 40 ((A 40).set y2.toInt.toNat (((A 40).getD y2.toInt.toNat 0) + ((A 40).getD (y2 - x1).toInt.toNat 0)))) L)) rfl ?_
    subst T
    have hb2 := i_dn42 ab.1
    have hb3 : x1.toInt ≤ y2.toInt := hb
    exact ih (show m = ((y2 + (-1)).toInt + 1 - x1.toInt).toNat by rw [hb2]; omega) (fun q2 => cvE rfl (funext fun q => if k0 : q = 40 then by subst k0; exact Eq.trans (b := (kv_joinSets_8 x1 m (y2 + (-1)) ((A 40).set y2.toInt.toNat (((A 40).getD y2.toInt.toNat 0) + ((A 40).getD (y2 - x1).toInt.toNat 0))))) rfl rfl else by unfold uA; simp only [nb1 k0, cond_false]) rfl (K q2))
def kv_joinSets (a40 : List Int32) (x1 : Int32) : List Int32 := (kv_joinSets_8 x1 (((Int32.ofNat a40.length) - 1).toInt + 1 - x1.toInt).toNat ((Int32.ofNat a40.length) - 1) a40)
theorem t_kv_joinSets {f D : Nat} {F : Nat → Nat → Int32} {A : Nat → List Int32} {L : Nat → List Int64} {Q : Option Value → sm_H → Prop} {x1 : Int32} (K : Q none (hz F (uA A 40 (kv_joinSets (A 40) x1)) L)) : wl_M f D 106 [.ref 30, .int x1] (hz F A L) Q := by
  generalize hT : (kv_joinSets (A 40) x1) = T at K
  have hE : T = (kv_joinSets_8 x1 (((Int32.ofNat (A 40).length) - 1).toInt + 1 - x1.toInt).toNat ((Int32.ofNat (A 40).length) - 1) (A 40)) := hT.symm
  clear hT
  refine w_m (E := mm106) rfl ?_
  show wl_E f f (D - 1) mm106.2.2.2.2.2.2.2.2 0 [some (.ref 30), some (.int x1), none] [] (hz F A L) Q
  refine w_n 6 (pc1 := 8) (ls1 := [some (.ref 30), some (.int x1), some (.int ((Int32.ofNat (A 40).length) - 1))]) (st1 := []) (hp1 := (hz F A L)) rfl ?_
  refine t_kv_joinSets_8 ((((Int32.ofNat (A 40).length) - 1).toInt + 1 - x1.toInt).toNat) (show (((Int32.ofNat (A 40).length) - 1).toInt + 1 - x1.toInt).toNat = (((Int32.ofNat (A 40).length) - 1).toInt + 1 - x1.toInt).toNat by first | rfl | omega) ?_
  intro r1
  show wl_E f _ _ mm106.2.2.2.2.2.2.2.2 36 [some (.ref 30), some (.int x1), some (.int r1)] [] (hz F (uA A 40 (kv_joinSets_8 x1 (((Int32.ofNat (A 40).length) - 1).toInt + 1 - x1.toInt).toNat ((Int32.ofNat (A 40).length) - 1) (A 40))) L) _
  generalize hG91 : (kv_joinSets_8 x1 (((Int32.ofNat (A 40).length) - 1).toInt + 1 - x1.toInt).toNat ((Int32.ofNat (A 40).length) - 1) (A 40)) = G91 at hE ⊢
  subst T
  exact w_r rfl rfl (cvQ rfl rfl rfl K)
def kv_setsSwungBy_6 (f3_1 : Int32) (a6 : List Int32) (x1 : Int32) : Nat → Int32 → List Int32 → List Int32
  | 0, _, a40 => a40
  | m + 1, y2, a40 => (if y2 = x1 then (kv_setsSwungBy_6 f3_1 a6 x1 m (y2 + 1) a40) else (if (kt_isTold f3_1 y2) = 0 then (kv_setsSwungBy_6 f3_1 a6 x1 m (y2 + 1) a40) else (kv_setsSwungBy_6 f3_1 a6 x1 m (y2 + 1) (kv_joinSets a40 (a6.getD y2.toInt.toNat 0)))))
theorem t_kv_setsSwungBy_6 {f : Nat} {Q : Option Value → sm_H → Prop} : ∀ (m : Nat) {B D : Nat} {F : Nat → Nat → Int32} {A : Nat → List Int32} {L : Nat → List Int64} {x1 : Int32} {y2 : Int32}, m = (12 - y2.toInt).toNat → (∀ q2 : Int32, wl_E f B D mm110.2.2.2.2.2.2.2.2 47 [some (.ref 30), some (.int x1), some (.int q2)] [] (hz F (uA A 40 (kv_setsSwungBy_6 (F 3 1) (A 6) x1 m y2 (A 40))) L) Q) → wl_E f B D mm110.2.2.2.2.2.2.2.2 6 [some (.ref 30), some (.int x1), some (.int y2)] [] (hz F A L) Q := by
  intro m
  induction m with
  | zero =>
    intro B D F A L x1 y2 hm K
    generalize hT : (kv_setsSwungBy_6 (F 3 1) (A 6) x1 0 y2 (A 40)) = T at K
    have hE : T = (A 40) := hT.symm
    clear hT
    refine w_n 2 (pc1 := 9) (ls1 := [some (.ref 30), some (.int x1), some (.int y2)]) (st1 := [.int 12, .int y2]) (hp1 := (hz F A L)) rfl ?_
    refine w_ge (p3 := 12) rfl rfl (fun hb => ?_) (fun h => False.elim (by have h : y2.toInt < 12 := h; omega))
    subst T
    exact cvE rfl (funext fun q => if k0 : q = 40 then by subst k0; exact Eq.trans (b := (A 40)) rfl rfl else by unfold uA; simp only [nb1 k0, cond_false]) rfl (K _)
  | succ m ih =>
    intro B D F A L x1 y2 hm K
    generalize hT : (kv_setsSwungBy_6 (F 3 1) (A 6) x1 (m + 1) y2 (A 40)) = T at K
    have hE : T = (if y2 = x1 then (kv_setsSwungBy_6 (F 3 1) (A 6) x1 m (y2 + 1) (A 40)) else (if (kt_isTold (F 3 1) y2) = 0 then (kv_setsSwungBy_6 (F 3 1) (A 6) x1 m (y2 + 1) (A 40)) else (kv_setsSwungBy_6 (F 3 1) (A 6) x1 m (y2 + 1) (kv_joinSets (A 40) ((A 6).getD y2.toInt.toNat 0))))) := hT.symm
    clear hT
    refine w_n 2 (pc1 := 9) (ls1 := [some (.ref 30), some (.int x1), some (.int y2)]) (st1 := [.int 12, .int y2]) (hp1 := (hz F A L)) rfl ?_
    refine w_ge (p3 := 12) rfl rfl (fun h => False.elim (by have h : 12 ≤ y2.toInt := h; omega)) (fun hb => ?_)
    refine w_n 2 (pc1 := 14) (ls1 := [some (.ref 30), some (.int x1), some (.int y2)]) (st1 := [.int x1, .int y2]) (hp1 := (hz F A L)) rfl ?_
    refine w_eq (p3 := 17) rfl rfl (fun h => ?_) (fun h => ?_)
    · have h1 : y2 = x1 := h
      rw [if_pos h1] at hE
      refine w_n 2 (pc1 := 6) (ls1 := [some (.ref 30), some (.int x1), some (.int (y2 + 1))]) (st1 := []) (hp1 := (hz F A L)) rfl ?_
      subst T
      have hb2 := i_up (B := (12 : Int32)) hb
      have hb3 : y2.toInt < 12 := hb
      exact ih (show m = (12 - (y2 + 1).toInt).toNat by rw [hb2]; omega) (fun q2 => cvE rfl (funext fun q => if k0 : q = 40 then by subst k0; exact Eq.trans (b := (kv_setsSwungBy_6 (F 3 1) (A 6) x1 m (y2 + 1) (A 40))) rfl rfl else by unfold uA; simp only [nb1 k0, cond_false]) rfl (K q2))
    · have h1 : ¬ y2 = x1 := h
      rw [if_neg h1] at hE
      refine w_n 3 (pc1 := 22) (ls1 := [some (.ref 30), some (.int x1), some (.int y2)]) (st1 := [.int y2, .ref 3]) (hp1 := (hz F A L)) rfl ?_
      refine w_c rfl rfl (t_kt_isTold ?_)
      show wl_E f _ _ mm110.2.2.2.2.2.2.2.2 25 [some (.ref 30), some (.int x1), some (.int y2)] [.int (kt_isTold (F 3 1) y2)] (hz F A L) _
      generalize hG90 : (kt_isTold (F 3 1) y2) = G90 at hE ⊢
      refine w_zeq (p3 := 28) rfl rfl (fun h => ?_) (fun h => ?_)
      · have h2 : G90 = 0 := h
        rw [if_pos h2] at hE
        refine w_n 2 (pc1 := 6) (ls1 := [some (.ref 30), some (.int x1), some (.int (y2 + 1))]) (st1 := []) (hp1 := (hz F A L)) rfl ?_
        subst T
        have hb2 := i_up (B := (12 : Int32)) hb
        have hb3 : y2.toInt < 12 := hb
        exact ih (show m = (12 - (y2 + 1).toInt).toNat by rw [hb2]; omega) (fun q2 => cvE rfl (funext fun q => if k0 : q = 40 then by subst k0; exact Eq.trans (b := (kv_setsSwungBy_6 (F 3 1) (A 6) x1 m (y2 + 1) (A 40))) rfl rfl else by unfold uA; simp only [nb1 k0, cond_false]) rfl (K q2))
      · have h2 : ¬ G90 = 0 := h
        rw [if_neg h2] at hE
        refine w_n 5 (pc1 := 37) (ls1 := [some (.ref 30), some (.int x1), some (.int y2)]) (st1 := [.int y2, .ref 6, .ref 30]) (hp1 := (hz F A L)) rfl ?_
        refine w_al (k := 6) (l := (A 6)) rfl rfl rfl (fun ab => ?_)
        refine w_c rfl rfl (t_kv_joinSets ?_)
        show wl_E f _ _ mm110.2.2.2.2.2.2.2.2 41 [some (.ref 30), some (.int x1), some (.int y2)] [] (hz F (uA A 40 (kv_joinSets (A 40) ((A 6).getD y2.toInt.toNat 0))) L) _
        generalize hG92 : (kv_joinSets (A 40) ((A 6).getD y2.toInt.toNat 0)) = G92 at hE ⊢
        refine w_n 2 (pc1 := 6) (ls1 := [some (.ref 30), some (.int x1), some (.int (y2 + 1))]) (st1 := []) (hp1 := (hz F (uA A 40 G92) L)) rfl ?_
        subst T
        have hb2 := i_up (B := (12 : Int32)) hb
        have hb3 : y2.toInt < 12 := hb
        exact ih (show m = (12 - (y2 + 1).toInt).toNat by rw [hb2]; omega) (fun q2 => cvE rfl (funext fun q => if k0 : q = 40 then by subst k0; exact Eq.trans (b := (kv_setsSwungBy_6 (F 3 1) (A 6) x1 m (y2 + 1) G92)) rfl rfl else by unfold uA; simp only [nb1 k0, cond_false]) rfl (K q2))
def kv_setsTurnedBy_13 (a40 : List Int32) (x1 : Int32) (x2 : Int32) : Nat → Int32 → Int32 → Int32
  | 0, y3, _ => y3
  | m + 1, y3, y4 => (if x2.toInt < (2 * y4).toInt then (kv_setsTurnedBy_13 a40 x1 x2 m y3 (y4 + 1)) else (if x2.toInt < (2 * (y4 + x1)).toInt then (kv_setsTurnedBy_13 a40 x1 x2 m (y3 + (a40.getD y4.toInt.toNat 0)) (y4 + 1)) else (kv_setsTurnedBy_13 a40 x1 x2 m y3 (y4 + 1))))
theorem t_kv_setsTurnedBy_13 {f : Nat} {Q : Option Value → sm_H → Prop} : ∀ (m : Nat) {B D : Nat} {F : Nat → Nat → Int32} {A : Nat → List Int32} {L : Nat → List Int64} {x1 : Int32} {x2 : Int32} {y3 : Int32} {y4 : Int32}, m = ((Int32.ofNat (A 40).length).toInt - y4.toInt).toNat → (∀ q4 : Int32, wl_E f B D mm109.2.2.2.2.2.2.2.2 57 [some (.ref 30), some (.int x1), some (.int x2), some (.int (kv_setsTurnedBy_13 (A 40) x1 x2 m y3 y4)), some (.int q4)] [] (hz F A L) Q) → wl_E f B D mm109.2.2.2.2.2.2.2.2 13 [some (.ref 30), some (.int x1), some (.int x2), some (.int y3), some (.int y4)] [] (hz F A L) Q := by
  intro m
  induction m with
  | zero =>
    intro B D F A L x1 x2 y3 y4 hm K
    generalize hT : (kv_setsTurnedBy_13 (A 40) x1 x2 0 y3 y4) = T at K
    have hE : T = y3 := hT.symm
    clear hT
    refine w_n 4 (pc1 := 20) (ls1 := [some (.ref 30), some (.int x1), some (.int x2), some (.int y3), some (.int y4)]) (st1 := [.int (Int32.ofNat (A 40).length), .int y4]) (hp1 := (hz F A L)) rfl ?_
    refine w_ge (p3 := 23) rfl rfl (fun hb => ?_) (fun h => False.elim (by have h : y4.toInt < (Int32.ofNat (A 40).length).toInt := h; omega))
    subst T
    exact cvE rfl rfl rfl (K _)
  | succ m ih =>
    intro B D F A L x1 x2 y3 y4 hm K
    generalize hT : (kv_setsTurnedBy_13 (A 40) x1 x2 (m + 1) y3 y4) = T at K
    have hE : T = (if x2.toInt < (2 * y4).toInt then (kv_setsTurnedBy_13 (A 40) x1 x2 m y3 (y4 + 1)) else (if x2.toInt < (2 * (y4 + x1)).toInt then (kv_setsTurnedBy_13 (A 40) x1 x2 m (y3 + ((A 40).getD y4.toInt.toNat 0)) (y4 + 1)) else (kv_setsTurnedBy_13 (A 40) x1 x2 m y3 (y4 + 1)))) := hT.symm
    clear hT
    refine w_n 4 (pc1 := 20) (ls1 := [some (.ref 30), some (.int x1), some (.int x2), some (.int y3), some (.int y4)]) (st1 := [.int (Int32.ofNat (A 40).length), .int y4]) (hp1 := (hz F A L)) rfl ?_
    refine w_ge (p3 := 23) rfl rfl (fun h => False.elim (by have h : (Int32.ofNat (A 40).length).toInt ≤ y4.toInt := h; omega)) (fun hb => ?_)
    refine w_n 4 (pc1 := 28) (ls1 := [some (.ref 30), some (.int x1), some (.int x2), some (.int y3), some (.int y4)]) (st1 := [.int x2, .int (2 * y4)]) (hp1 := (hz F A L)) rfl ?_
    refine w_gt (p3 := 31) rfl rfl (fun h => ?_) (fun h => ?_)
    · have h1 : x2.toInt < (2 * y4).toInt := h
      rw [if_pos h1] at hE
      refine w_n 2 (pc1 := 13) (ls1 := [some (.ref 30), some (.int x1), some (.int x2), some (.int y3), some (.int (y4 + 1))]) (st1 := []) (hp1 := (hz F A L)) rfl ?_
      subst T
      have hb2 := i_up (B := (Int32.ofNat (A 40).length)) hb
      have hb3 : y4.toInt < (Int32.ofNat (A 40).length).toInt := hb
      exact ih (show m = ((Int32.ofNat (A 40).length).toInt - (y4 + 1).toInt).toNat by rw [hb2]; omega) (fun q4 => cvE rfl rfl rfl (K q4))
    · have h1 : (2 * y4).toInt ≤ x2.toInt := h
      rw [if_neg (Int.not_lt.mpr h1)] at hE
      refine w_n 6 (pc1 := 38) (ls1 := [some (.ref 30), some (.int x1), some (.int x2), some (.int y3), some (.int y4)]) (st1 := [.int x2, .int (2 * (y4 + x1))]) (hp1 := (hz F A L)) rfl ?_
      refine w_le (p3 := 41) rfl rfl (fun h => ?_) (fun h => ?_)
      · have h2 : (2 * (y4 + x1)).toInt ≤ x2.toInt := h
        rw [if_neg (Int.not_lt.mpr h2)] at hE
        refine w_n 2 (pc1 := 13) (ls1 := [some (.ref 30), some (.int x1), some (.int x2), some (.int y3), some (.int (y4 + 1))]) (st1 := []) (hp1 := (hz F A L)) rfl ?_
        subst T
        have hb2 := i_up (B := (Int32.ofNat (A 40).length)) hb
        have hb3 : y4.toInt < (Int32.ofNat (A 40).length).toInt := hb
        exact ih (show m = ((Int32.ofNat (A 40).length).toInt - (y4 + 1).toInt).toNat by rw [hb2]; omega) (fun q4 => cvE rfl rfl rfl (K q4))
      · have h2 : x2.toInt < (2 * (y4 + x1)).toInt := h
        rw [if_pos h2] at hE
        refine w_n 4 (pc1 := 48) (ls1 := [some (.ref 30), some (.int x1), some (.int x2), some (.int y3), some (.int y4)]) (st1 := [.int y4, .ref 40, .int y3]) (hp1 := (hz F A L)) rfl ?_
        refine w_al (k := 40) (l := (A 40)) rfl rfl rfl (fun ab => ?_)
        refine w_n 4 (pc1 := 13) (ls1 := [some (.ref 30), some (.int x1), some (.int x2), some (.int (y3 + ((A 40).getD y4.toInt.toNat 0))), some (.int (y4 + 1))]) (st1 := []) (hp1 := (hz F A L)) rfl ?_
        subst T
        have hb2 := i_up (B := (Int32.ofNat (A 40).length)) hb
        have hb3 : y4.toInt < (Int32.ofNat (A 40).length).toInt := hb
        exact ih (show m = ((Int32.ofNat (A 40).length).toInt - (y4 + 1).toInt).toNat by rw [hb2]; omega) (fun q4 => cvE rfl rfl rfl (K q4))
def kv_setsTurnedBy (f3_1 : Int32) (a6 : List Int32) (a40 : List Int32) (x1 : Int32) : Int32 := (kv_setsTurnedBy_13 a40 x1 (kt_allBiscuits f3_1 a6) ((Int32.ofNat a40.length).toInt).toNat 0 0)
theorem t_kv_setsTurnedBy {f D : Nat} {F : Nat → Nat → Int32} {A : Nat → List Int32} {L : Nat → List Int64} {Q : Option Value → sm_H → Prop} {x1 : Int32} (K : Q (some (.int (kv_setsTurnedBy (F 3 1) (A 6) (A 40) x1))) (hz F A L)) : wl_M f D 109 [.ref 30, .int x1] (hz F A L) Q := by
  generalize hT : (kv_setsTurnedBy (F 3 1) (A 6) (A 40) x1) = T at K
  have hE : T = (kv_setsTurnedBy_13 (A 40) x1 (kt_allBiscuits (F 3 1) (A 6)) ((Int32.ofNat (A 40).length).toInt).toNat 0 0) := hT.symm
  clear hT
  refine w_m (E := mm109) rfl ?_
  show wl_E f f (D - 1) mm109.2.2.2.2.2.2.2.2 0 [some (.ref 30), some (.int x1), none, none, none] [] (hz F A L) Q
  refine w_n 2 (pc1 := 4) (ls1 := [some (.ref 30), some (.int x1), none, none, none]) (st1 := [.ref 3]) (hp1 := (hz F A L)) rfl ?_
  refine w_c rfl rfl (t_kt_allBiscuits ?_)
  show wl_E f _ _ mm109.2.2.2.2.2.2.2.2 7 [some (.ref 30), some (.int x1), none, none, none] [.int (kt_allBiscuits (F 3 1) (A 6))] (hz F A L) _
  generalize hG94 : (kt_allBiscuits (F 3 1) (A 6)) = G94 at hE ⊢
  refine w_n 5 (pc1 := 13) (ls1 := [some (.ref 30), some (.int x1), some (.int G94), some (.int 0), some (.int 0)]) (st1 := []) (hp1 := (hz F A L)) rfl ?_
  refine t_kv_setsTurnedBy_13 (((Int32.ofNat (A 40).length).toInt).toNat) (show ((Int32.ofNat (A 40).length).toInt).toNat = ((Int32.ofNat (A 40).length).toInt - (0 : Int32).toInt).toNat by have e0 : (0 : Int32).toInt = 0 := rfl; first | rfl | omega) ?_
  intro r1
  show wl_E f _ _ mm109.2.2.2.2.2.2.2.2 57 [some (.ref 30), some (.int x1), some (.int G94), some (.int (kv_setsTurnedBy_13 (A 40) x1 G94 ((Int32.ofNat (A 40).length).toInt).toNat 0 0)), some (.int r1)] [] (hz F A L) _
  generalize hG95 : (kv_setsTurnedBy_13 (A 40) x1 G94 ((Int32.ofNat (A 40).length).toInt).toNat 0 0) = G95 at hE ⊢
  refine w_n 1 (pc1 := 58) (ls1 := [some (.ref 30), some (.int x1), some (.int G94), some (.int G95), some (.int r1)]) (st1 := [.int G95]) (hp1 := (hz F A L)) rfl ?_
  subst T
  exact w_ri rfl (cvQ rfl rfl rfl K)
def kv_setsSwungBy (f3_1 : Int32) (a6 : List Int32) (a40 : List Int32) (x1 : Int32) : Int32 × List Int32 := ((kv_setsTurnedBy f3_1 a6 (kv_setsSwungBy_6 f3_1 a6 x1 12 0 (kv_beginSets a40)) (a6.getD x1.toInt.toNat 0)), (kv_setsSwungBy_6 f3_1 a6 x1 12 0 (kv_beginSets a40)))
theorem t_kv_setsSwungBy {f D : Nat} {F : Nat → Nat → Int32} {A : Nat → List Int32} {L : Nat → List Int64} {Q : Option Value → sm_H → Prop} {x1 : Int32} (K : Q (some (.int ((kv_setsSwungBy (F 3 1) (A 6) (A 40) x1).1))) (hz F (uA A 40 ((kv_setsSwungBy (F 3 1) (A 6) (A 40) x1).2)) L)) : wl_M f D 110 [.ref 30, .int x1] (hz F A L) Q := by
  generalize hT : (kv_setsSwungBy (F 3 1) (A 6) (A 40) x1) = T at K
  have hE : T = ((kv_setsTurnedBy (F 3 1) (A 6) (kv_setsSwungBy_6 (F 3 1) (A 6) x1 12 0 (kv_beginSets (A 40))) ((A 6).getD x1.toInt.toNat 0)), (kv_setsSwungBy_6 (F 3 1) (A 6) x1 12 0 (kv_beginSets (A 40)))) := hT.symm
  clear hT
  refine w_m (E := mm110) rfl ?_
  show wl_E f f (D - 1) mm110.2.2.2.2.2.2.2.2 0 [some (.ref 30), some (.int x1), none] [] (hz F A L) Q
  refine w_n 1 (pc1 := 1) (ls1 := [some (.ref 30), some (.int x1), none]) (st1 := [.ref 30]) (hp1 := (hz F A L)) rfl ?_
  refine w_c rfl rfl (t_kv_beginSets ?_)
  show wl_E f _ _ mm110.2.2.2.2.2.2.2.2 4 [some (.ref 30), some (.int x1), none] [] (hz F (uA A 40 (kv_beginSets (A 40))) L) _
  generalize hG89 : (kv_beginSets (A 40)) = G89 at hE ⊢
  refine w_n 2 (pc1 := 6) (ls1 := [some (.ref 30), some (.int x1), some (.int 0)]) (st1 := []) (hp1 := (hz F (uA A 40 G89) L)) rfl ?_
  refine t_kv_setsSwungBy_6 12 (show (12 : Nat) = (12 - (0 : Int32).toInt).toNat by have e0 : (0 : Int32).toInt = 0 := rfl; first | rfl | omega) ?_
  intro r1
  show wl_E f _ _ mm110.2.2.2.2.2.2.2.2 47 [some (.ref 30), some (.int x1), some (.int r1)] [] (hz F (uA (uA A 40 G89) 40 (kv_setsSwungBy_6 (F 3 1) (A 6) x1 12 0 G89)) L) _
  generalize hG93 : (kv_setsSwungBy_6 (F 3 1) (A 6) x1 12 0 G89) = G93 at hE ⊢
  refine w_n 5 (pc1 := 56) (ls1 := [some (.ref 30), some (.int x1), some (.int r1)]) (st1 := [.int x1, .ref 6, .ref 30]) (hp1 := (hz F (uA (uA A 40 G89) 40 G93) L)) rfl ?_
  refine w_al (k := 6) (l := (A 6)) rfl rfl rfl (fun _ => ?_)
  refine w_c rfl rfl (t_kv_setsTurnedBy ?_)
  show wl_E f _ _ mm110.2.2.2.2.2.2.2.2 60 [some (.ref 30), some (.int x1), some (.int r1)] [.int (kv_setsTurnedBy (F 3 1) (A 6) G93 ((A 6).getD x1.toInt.toNat 0))] (hz F (uA (uA A 40 G89) 40 G93) L) _
  generalize hG96 : (kv_setsTurnedBy (F 3 1) (A 6) G93 ((A 6).getD x1.toInt.toNat 0)) = G96 at hE ⊢
  subst T
  exact w_ri rfl (cvQ rfl (funext fun q => if k0 : q = 40 then by subst k0; exact Eq.trans (b := G93) rfl rfl else by unfold uA; simp only [nb1 k0, cond_false]) rfl K)
def kv_leastWinningSets_15 (f3_1 : Int32) (a6 : List Int32) (x2 : Int32) : Nat → Int32 → Int32 → List Int32 → Int32 × List Int32
  | 0, y1, _, a40 => (y1, a40)
  | m + 1, y1, y3, a40 => (if (kt_isTold f3_1 y3) = 0 then (kv_leastWinningSets_15 f3_1 a6 x2 m y1 (y3 + 1) a40) else (if (a6.getD y3.toInt.toNat 0) = x2 then (kv_leastWinningSets_15 f3_1 a6 x2 m (y1 + (kv_setsTurnedBy f3_1 a6 a40 x2)) (y3 + 1) (kv_joinSets a40 x2)) else (kv_leastWinningSets_15 f3_1 a6 x2 m y1 (y3 + 1) a40)))
theorem t_kv_leastWinningSets_15 {f : Nat} {Q : Option Value → sm_H → Prop} : ∀ (m : Nat) {B D : Nat} {F : Nat → Nat → Int32} {A : Nat → List Int32} {L : Nat → List Int64} {y1 : Int32} {x2 : Int32} {y3 : Int32}, m = (12 - y3.toInt).toNat → (∀ q3 : Int32, wl_E f B D mm108.2.2.2.2.2.2.2.2 67 [some (.ref 30), some (.int ((kv_leastWinningSets_15 (F 3 1) (A 6) x2 m y1 y3 (A 40)).1)), some (.int x2), some (.int q3)] [] (hz F (uA A 40 ((kv_leastWinningSets_15 (F 3 1) (A 6) x2 m y1 y3 (A 40)).2)) L) Q) → wl_E f B D mm108.2.2.2.2.2.2.2.2 15 [some (.ref 30), some (.int y1), some (.int x2), some (.int y3)] [] (hz F A L) Q := by
  intro m
  induction m with
  | zero =>
    intro B D F A L y1 x2 y3 hm K
    generalize hT : (kv_leastWinningSets_15 (F 3 1) (A 6) x2 0 y1 y3 (A 40)) = T at K
    have hE : T = (y1, (A 40)) := hT.symm
    clear hT
    refine w_n 2 (pc1 := 18) (ls1 := [some (.ref 30), some (.int y1), some (.int x2), some (.int y3)]) (st1 := [.int 12, .int y3]) (hp1 := (hz F A L)) rfl ?_
    refine w_ge (p3 := 21) rfl rfl (fun hb => ?_) (fun h => False.elim (by have h : y3.toInt < 12 := h; omega))
    subst T
    exact cvE rfl (funext fun q => if k0 : q = 40 then by subst k0; exact Eq.trans (b := (A 40)) rfl rfl else by unfold uA; simp only [nb1 k0, cond_false]) rfl (K _)
  | succ m ih =>
    intro B D F A L y1 x2 y3 hm K
    generalize hT : (kv_leastWinningSets_15 (F 3 1) (A 6) x2 (m + 1) y1 y3 (A 40)) = T at K
    have hE : T = (if (kt_isTold (F 3 1) y3) = 0 then (kv_leastWinningSets_15 (F 3 1) (A 6) x2 m y1 (y3 + 1) (A 40)) else (if ((A 6).getD y3.toInt.toNat 0) = x2 then (kv_leastWinningSets_15 (F 3 1) (A 6) x2 m (y1 + (kv_setsTurnedBy (F 3 1) (A 6) (A 40) x2)) (y3 + 1) (kv_joinSets (A 40) x2)) else (kv_leastWinningSets_15 (F 3 1) (A 6) x2 m y1 (y3 + 1) (A 40)))) := hT.symm
    clear hT
    refine w_n 2 (pc1 := 18) (ls1 := [some (.ref 30), some (.int y1), some (.int x2), some (.int y3)]) (st1 := [.int 12, .int y3]) (hp1 := (hz F A L)) rfl ?_
    refine w_ge (p3 := 21) rfl rfl (fun h => False.elim (by have h : 12 ≤ y3.toInt := h; omega)) (fun hb => ?_)
    refine w_n 3 (pc1 := 26) (ls1 := [some (.ref 30), some (.int y1), some (.int x2), some (.int y3)]) (st1 := [.int y3, .ref 3]) (hp1 := (hz F A L)) rfl ?_
    refine w_c rfl rfl (t_kt_isTold ?_)
    show wl_E f _ _ mm108.2.2.2.2.2.2.2.2 29 [some (.ref 30), some (.int y1), some (.int x2), some (.int y3)] [.int (kt_isTold (F 3 1) y3)] (hz F A L) _
    generalize hG101 : (kt_isTold (F 3 1) y3) = G101 at hE ⊢
    refine w_zeq (p3 := 32) rfl rfl (fun h => ?_) (fun h => ?_)
    · have h1 : G101 = 0 := h
      rw [if_pos h1] at hE
      refine w_n 2 (pc1 := 15) (ls1 := [some (.ref 30), some (.int y1), some (.int x2), some (.int (y3 + 1))]) (st1 := []) (hp1 := (hz F A L)) rfl ?_
      subst T
      have hb2 := i_up (B := (12 : Int32)) hb
      have hb3 : y3.toInt < 12 := hb
      exact ih (show m = (12 - (y3 + 1).toInt).toNat by rw [hb2]; omega) (fun q3 => cvE rfl (funext fun q => if k0 : q = 40 then by subst k0; exact Eq.trans (b := (kv_leastWinningSets_15 (F 3 1) (A 6) x2 m y1 (y3 + 1) (A 40)).2) rfl rfl else by unfold uA; simp only [nb1 k0, cond_false]) rfl (K q3))
    · have h1 : ¬ G101 = 0 := h
      rw [if_neg h1] at hE
      refine w_n 4 (pc1 := 40) (ls1 := [some (.ref 30), some (.int y1), some (.int x2), some (.int y3)]) (st1 := [.int y3, .ref 6]) (hp1 := (hz F A L)) rfl ?_
      refine w_al (k := 6) (l := (A 6)) rfl rfl rfl (fun ab => ?_)
      refine w_n 1 (pc1 := 42) (ls1 := [some (.ref 30), some (.int y1), some (.int x2), some (.int y3)]) (st1 := [.int x2, .int ((A 6).getD y3.toInt.toNat 0)]) (hp1 := (hz F A L)) rfl ?_
      refine w_eq (p3 := 45) rfl rfl (fun h => ?_) (fun h => ?_)
      · have h2 : ((A 6).getD y3.toInt.toNat 0) = x2 := h
        rw [if_pos h2] at hE
        refine w_n 3 (pc1 := 51) (ls1 := [some (.ref 30), some (.int y1), some (.int x2), some (.int y3)]) (st1 := [.int x2, .ref 30, .int y1]) (hp1 := (hz F A L)) rfl ?_
        refine w_c rfl rfl (t_kv_setsTurnedBy ?_)
        show wl_E f _ _ mm108.2.2.2.2.2.2.2.2 54 [some (.ref 30), some (.int y1), some (.int x2), some (.int y3)] [.int (kv_setsTurnedBy (F 3 1) (A 6) (A 40) x2), .int y1] (hz F A L) _
        generalize hG102 : (kv_setsTurnedBy (F 3 1) (A 6) (A 40) x2) = G102 at hE ⊢
        refine w_n 4 (pc1 := 58) (ls1 := [some (.ref 30), some (.int (y1 + G102)), some (.int x2), some (.int y3)]) (st1 := [.int x2, .ref 30]) (hp1 := (hz F A L)) rfl ?_
        refine w_c rfl rfl (t_kv_joinSets ?_)
        show wl_E f _ _ mm108.2.2.2.2.2.2.2.2 61 [some (.ref 30), some (.int (y1 + G102)), some (.int x2), some (.int y3)] [] (hz F (uA A 40 (kv_joinSets (A 40) x2)) L) _
        generalize hG103 : (kv_joinSets (A 40) x2) = G103 at hE ⊢
        refine w_n 2 (pc1 := 15) (ls1 := [some (.ref 30), some (.int (y1 + G102)), some (.int x2), some (.int (y3 + 1))]) (st1 := []) (hp1 := (hz F (uA A 40 G103) L)) rfl ?_
        subst T
        have hb2 := i_up (B := (12 : Int32)) hb
        have hb3 : y3.toInt < 12 := hb
        exact ih (show m = (12 - (y3 + 1).toInt).toNat by rw [hb2]; omega) (fun q3 => cvE rfl (funext fun q => if k0 : q = 40 then by subst k0; exact Eq.trans (b := (kv_leastWinningSets_15 (F 3 1) (A 6) x2 m (y1 + G102) (y3 + 1) G103).2) rfl rfl else by unfold uA; simp only [nb1 k0, cond_false]) rfl (K q3))
      · have h2 : ¬ ((A 6).getD y3.toInt.toNat 0) = x2 := h
        rw [if_neg h2] at hE
        refine w_n 3 (pc1 := 15) (ls1 := [some (.ref 30), some (.int y1), some (.int x2), some (.int (y3 + 1))]) (st1 := []) (hp1 := (hz F A L)) rfl ?_
        subst T
        have hb2 := i_up (B := (12 : Int32)) hb
        have hb3 : y3.toInt < 12 := hb
        exact ih (show m = (12 - (y3 + 1).toInt).toNat by rw [hb2]; omega) (fun q3 => cvE rfl (funext fun q => if k0 : q = 40 then by subst k0; exact Eq.trans (b := (kv_leastWinningSets_15 (F 3 1) (A 6) x2 m y1 (y3 + 1) (A 40)).2) rfl rfl else by unfold uA; simp only [nb1 k0, cond_false]) rfl (K q3))
def kv_leastWinningSets_9 (f3_1 : Int32) (a6 : List Int32)  : Nat → Int32 → Int32 → List Int32 → Int32 × List Int32
  | 0, y1, _, a40 => (y1, a40)
  | m + 1, y1, y2, a40 => (kv_leastWinningSets_9 f3_1 a6 m (kv_leastWinningSets_15 f3_1 a6 y2 12 y1 0 a40).1 (y2 + (-1)) (kv_leastWinningSets_15 f3_1 a6 y2 12 y1 0 a40).2)
theorem t_kv_leastWinningSets_9 {f : Nat} {Q : Option Value → sm_H → Prop} : ∀ (m : Nat) {B D : Nat} {F : Nat → Nat → Int32} {A : Nat → List Int32} {L : Nat → List Int64} {y1 : Int32} {y2 : Int32} {o3 : Option Value}, m = (y2.toInt - 0).toNat → (∀ q2 : Int32, ∀ q3 : Option Value, wl_E f B D mm108.2.2.2.2.2.2.2.2 73 [some (.ref 30), some (.int ((kv_leastWinningSets_9 (F 3 1) (A 6) m y1 y2 (A 40)).1)), some (.int q2), q3] [] (hz F (uA A 40 ((kv_leastWinningSets_9 (F 3 1) (A 6) m y1 y2 (A 40)).2)) L) Q) → wl_E f B D mm108.2.2.2.2.2.2.2.2 9 [some (.ref 30), some (.int y1), some (.int y2), o3] [] (hz F A L) Q := by
  intro m
  induction m with
  | zero =>
    intro B D F A L y1 y2 o3 hm K
    generalize hT : (kv_leastWinningSets_9 (F 3 1) (A 6) 0 y1 y2 (A 40)) = T at K
    have hE : T = (y1, (A 40)) := hT.symm
    clear hT
    refine w_n 1 (pc1 := 10) (ls1 := [some (.ref 30), some (.int y1), some (.int y2), o3]) (st1 := [.int y2]) (hp1 := (hz F A L)) rfl ?_
    refine w_zle (p3 := 13) rfl rfl (fun hb => ?_) (fun h => False.elim (by have h : 0 < y2.toInt := h; omega))
    subst T
    exact cvE rfl (funext fun q => if k0 : q = 40 then by subst k0; exact Eq.trans (b := (A 40)) rfl rfl else by unfold uA; simp only [nb1 k0, cond_false]) rfl (K _ _)
  | succ m ih =>
    intro B D F A L y1 y2 o3 hm K
    generalize hT : (kv_leastWinningSets_9 (F 3 1) (A 6) (m + 1) y1 y2 (A 40)) = T at K
    have hE : T = (kv_leastWinningSets_9 (F 3 1) (A 6) m (kv_leastWinningSets_15 (F 3 1) (A 6) y2 12 y1 0 (A 40)).1 (y2 + (-1)) (kv_leastWinningSets_15 (F 3 1) (A 6) y2 12 y1 0 (A 40)).2) := hT.symm
    clear hT
    refine w_n 1 (pc1 := 10) (ls1 := [some (.ref 30), some (.int y1), some (.int y2), o3]) (st1 := [.int y2]) (hp1 := (hz F A L)) rfl ?_
    refine w_zle (p3 := 13) rfl rfl (fun h => False.elim (by have h : y2.toInt ≤ 0 := h; omega)) (fun hb => ?_)
    refine w_n 2 (pc1 := 15) (ls1 := [some (.ref 30), some (.int y1), some (.int y2), some (.int 0)]) (st1 := []) (hp1 := (hz F A L)) rfl ?_
    refine t_kv_leastWinningSets_15 12 (show (12 : Nat) = (12 - (0 : Int32).toInt).toNat by have e0 : (0 : Int32).toInt = 0 := rfl; first | rfl | omega) ?_
    intro r1
    show wl_E f _ _ mm108.2.2.2.2.2.2.2.2 67 [some (.ref 30), some (.int (kv_leastWinningSets_15 (F 3 1) (A 6) y2 12 y1 0 (A 40)).1), some (.int y2), some (.int r1)] [] (hz F (uA A 40 (kv_leastWinningSets_15 (F 3 1) (A 6) y2 12 y1 0 (A 40)).2) L) _
    generalize hG104 : (kv_leastWinningSets_15 (F 3 1) (A 6) y2 12 y1 0 (A 40)) = G104 at hE ⊢
    refine w_n 2 (pc1 := 9) (ls1 := [some (.ref 30), some (.int G104.1), some (.int (y2 + (-1))), some (.int r1)]) (st1 := []) (hp1 := (hz F (uA A 40 G104.2) L)) rfl ?_
    subst T
    have hb2 := i_dn2 (B := (0 : Int32)) hb
    have hb3 : 0 < y2.toInt := hb
    exact ih (show m = ((y2 + (-1)).toInt - 0).toNat by rw [hb2]; omega) (fun q2 q3 => cvE rfl (funext fun q => if k0 : q = 40 then by subst k0; exact Eq.trans (b := (kv_leastWinningSets_9 (F 3 1) (A 6) m G104.1 (y2 + (-1)) G104.2).2) rfl rfl else by unfold uA; simp only [nb1 k0, cond_false]) rfl (K q2 q3))
def kv_leastWinningSets (f3_1 : Int32) (a6 : List Int32) (a40 : List Int32) : Int32 × List Int32 := ((kv_leastWinningSets_9 f3_1 a6 20 0 20 (kv_beginSets a40)).1, (kv_leastWinningSets_9 f3_1 a6 20 0 20 (kv_beginSets a40)).2)
theorem t_kv_leastWinningSets {f D : Nat} {F : Nat → Nat → Int32} {A : Nat → List Int32} {L : Nat → List Int64} {Q : Option Value → sm_H → Prop} (K : Q (some (.int ((kv_leastWinningSets (F 3 1) (A 6) (A 40)).1))) (hz F (uA A 40 ((kv_leastWinningSets (F 3 1) (A 6) (A 40)).2)) L)) : wl_M f D 108 [.ref 30] (hz F A L) Q := by
  generalize hT : (kv_leastWinningSets (F 3 1) (A 6) (A 40)) = T at K
  have hE : T = ((kv_leastWinningSets_9 (F 3 1) (A 6) 20 0 20 (kv_beginSets (A 40))).1, (kv_leastWinningSets_9 (F 3 1) (A 6) 20 0 20 (kv_beginSets (A 40))).2) := hT.symm
  clear hT
  refine w_m (E := mm108) rfl ?_
  show wl_E f f (D - 1) mm108.2.2.2.2.2.2.2.2 0 [some (.ref 30), none, none, none] [] (hz F A L) Q
  refine w_n 1 (pc1 := 1) (ls1 := [some (.ref 30), none, none, none]) (st1 := [.ref 30]) (hp1 := (hz F A L)) rfl ?_
  refine w_c rfl rfl (t_kv_beginSets ?_)
  show wl_E f _ _ mm108.2.2.2.2.2.2.2.2 4 [some (.ref 30), none, none, none] [] (hz F (uA A 40 (kv_beginSets (A 40))) L) _
  generalize hG100 : (kv_beginSets (A 40)) = G100 at hE ⊢
  refine w_n 4 (pc1 := 9) (ls1 := [some (.ref 30), some (.int 0), some (.int 20), none]) (st1 := []) (hp1 := (hz F (uA A 40 G100) L)) rfl ?_
  refine t_kv_leastWinningSets_9 20 (show (20 : Nat) = ((20 : Int32).toInt - 0).toNat by have e0 : (20 : Int32).toInt = 20 := rfl; first | rfl | omega) ?_
  intro r1 r2
  show wl_E f _ _ mm108.2.2.2.2.2.2.2.2 73 [some (.ref 30), some (.int (kv_leastWinningSets_9 (F 3 1) (A 6) 20 0 20 G100).1), some (.int r1), r2] [] (hz F (uA (uA A 40 G100) 40 (kv_leastWinningSets_9 (F 3 1) (A 6) 20 0 20 G100).2) L) _
  generalize hG105 : (kv_leastWinningSets_9 (F 3 1) (A 6) 20 0 20 G100) = G105 at hE ⊢
  refine w_n 1 (pc1 := 74) (ls1 := [some (.ref 30), some (.int G105.1), some (.int r1), r2]) (st1 := [.int G105.1]) (hp1 := (hz F (uA (uA A 40 G100) 40 G105.2) L)) rfl ?_
  subst T
  exact w_ri rfl (cvQ rfl (funext fun q => if k0 : q = 40 then by subst k0; exact Eq.trans (b := G105.2) rfl rfl else by unfold uA; simp only [nb1 k0, cond_false]) rfl K)
def kv_winningSets_6 (f3_1 : Int32) (a6 : List Int32)  : Nat → Int32 → List Int32 → List Int32
  | 0, _, a40 => a40
  | m + 1, y1, a40 => (if (kt_isTold f3_1 y1) = 0 then (kv_winningSets_6 f3_1 a6 m (y1 + 1) a40) else (kv_winningSets_6 f3_1 a6 m (y1 + 1) (kv_joinSets a40 (a6.getD y1.toInt.toNat 0))))
theorem t_kv_winningSets_6 {f : Nat} {Q : Option Value → sm_H → Prop} : ∀ (m : Nat) {B D : Nat} {F : Nat → Nat → Int32} {A : Nat → List Int32} {L : Nat → List Int64} {y1 : Int32} {o2 : Option Value} {o3 : Option Value}, m = (12 - y1.toInt).toNat → (∀ q1 : Int32, wl_E f B D mm104.2.2.2.2.2.2.2.2 42 [some (.ref 30), some (.int q1), o2, o3] [] (hz F (uA A 40 (kv_winningSets_6 (F 3 1) (A 6) m y1 (A 40))) L) Q) → wl_E f B D mm104.2.2.2.2.2.2.2.2 6 [some (.ref 30), some (.int y1), o2, o3] [] (hz F A L) Q := by
  intro m
  induction m with
  | zero =>
    intro B D F A L y1 o2 o3 hm K
    generalize hT : (kv_winningSets_6 (F 3 1) (A 6) 0 y1 (A 40)) = T at K
    have hE : T = (A 40) := hT.symm
    clear hT
    refine w_n 2 (pc1 := 9) (ls1 := [some (.ref 30), some (.int y1), o2, o3]) (st1 := [.int 12, .int y1]) (hp1 := (hz F A L)) rfl ?_
    refine w_ge (p3 := 12) rfl rfl (fun hb => ?_) (fun h => False.elim (by have h : y1.toInt < 12 := h; omega))
    subst T
    exact cvE rfl (funext fun q => if k0 : q = 40 then by subst k0; exact Eq.trans (b := (A 40)) rfl rfl else by unfold uA; simp only [nb1 k0, cond_false]) rfl (K _)
  | succ m ih =>
    intro B D F A L y1 o2 o3 hm K
    generalize hT : (kv_winningSets_6 (F 3 1) (A 6) (m + 1) y1 (A 40)) = T at K
    have hE : T = (if (kt_isTold (F 3 1) y1) = 0 then (kv_winningSets_6 (F 3 1) (A 6) m (y1 + 1) (A 40)) else (kv_winningSets_6 (F 3 1) (A 6) m (y1 + 1) (kv_joinSets (A 40) ((A 6).getD y1.toInt.toNat 0)))) := hT.symm
    clear hT
    refine w_n 2 (pc1 := 9) (ls1 := [some (.ref 30), some (.int y1), o2, o3]) (st1 := [.int 12, .int y1]) (hp1 := (hz F A L)) rfl ?_
    refine w_ge (p3 := 12) rfl rfl (fun h => False.elim (by have h : 12 ≤ y1.toInt := h; omega)) (fun hb => ?_)
    refine w_n 3 (pc1 := 17) (ls1 := [some (.ref 30), some (.int y1), o2, o3]) (st1 := [.int y1, .ref 3]) (hp1 := (hz F A L)) rfl ?_
    refine w_c rfl rfl (t_kt_isTold ?_)
    show wl_E f _ _ mm104.2.2.2.2.2.2.2.2 20 [some (.ref 30), some (.int y1), o2, o3] [.int (kt_isTold (F 3 1) y1)] (hz F A L) _
    generalize hG108 : (kt_isTold (F 3 1) y1) = G108 at hE ⊢
    refine w_zeq (p3 := 23) rfl rfl (fun h => ?_) (fun h => ?_)
    · have h1 : G108 = 0 := h
      rw [if_pos h1] at hE
      refine w_n 2 (pc1 := 6) (ls1 := [some (.ref 30), some (.int (y1 + 1)), o2, o3]) (st1 := []) (hp1 := (hz F A L)) rfl ?_
      subst T
      have hb2 := i_up (B := (12 : Int32)) hb
      have hb3 : y1.toInt < 12 := hb
      exact ih (show m = (12 - (y1 + 1).toInt).toNat by rw [hb2]; omega) (fun q1 => cvE rfl (funext fun q => if k0 : q = 40 then by subst k0; exact Eq.trans (b := (kv_winningSets_6 (F 3 1) (A 6) m (y1 + 1) (A 40))) rfl rfl else by unfold uA; simp only [nb1 k0, cond_false]) rfl (K q1))
    · have h1 : ¬ G108 = 0 := h
      rw [if_neg h1] at hE
      refine w_n 5 (pc1 := 32) (ls1 := [some (.ref 30), some (.int y1), o2, o3]) (st1 := [.int y1, .ref 6, .ref 30]) (hp1 := (hz F A L)) rfl ?_
      refine w_al (k := 6) (l := (A 6)) rfl rfl rfl (fun ab => ?_)
      refine w_c rfl rfl (t_kv_joinSets ?_)
      show wl_E f _ _ mm104.2.2.2.2.2.2.2.2 36 [some (.ref 30), some (.int y1), o2, o3] [] (hz F (uA A 40 (kv_joinSets (A 40) ((A 6).getD y1.toInt.toNat 0))) L) _
      generalize hG109 : (kv_joinSets (A 40) ((A 6).getD y1.toInt.toNat 0)) = G109 at hE ⊢
      refine w_n 2 (pc1 := 6) (ls1 := [some (.ref 30), some (.int (y1 + 1)), o2, o3]) (st1 := []) (hp1 := (hz F (uA A 40 G109) L)) rfl ?_
      subst T
      have hb2 := i_up (B := (12 : Int32)) hb
      have hb3 : y1.toInt < 12 := hb
      exact ih (show m = (12 - (y1 + 1).toInt).toNat by rw [hb2]; omega) (fun q1 => cvE rfl (funext fun q => if k0 : q = 40 then by subst k0; exact Eq.trans (b := (kv_winningSets_6 (F 3 1) (A 6) m (y1 + 1) G109)) rfl rfl else by unfold uA; simp only [nb1 k0, cond_false]) rfl (K q1))
def kv_winningSets_54 (a40 : List Int32) (x1 : Int32) : Nat → Int32 → Int32 → Int32
  | 0, y2, _ => y2
  | m + 1, y2, y3 => (if x1.toInt < (2 * y3).toInt then (kv_winningSets_54 a40 x1 m (y2 + (a40.getD y3.toInt.toNat 0)) (y3 + 1)) else (kv_winningSets_54 a40 x1 m y2 (y3 + 1)))
theorem t_kv_winningSets_54 {f : Nat} {Q : Option Value → sm_H → Prop} : ∀ (m : Nat) {B D : Nat} {F : Nat → Nat → Int32} {A : Nat → List Int32} {L : Nat → List Int64} {x1 : Int32} {y2 : Int32} {y3 : Int32}, m = ((Int32.ofNat (A 40).length).toInt - y3.toInt).toNat → (∀ q3 : Int32, wl_E f B D mm104.2.2.2.2.2.2.2.2 85 [some (.ref 30), some (.int x1), some (.int (kv_winningSets_54 (A 40) x1 m y2 y3)), some (.int q3)] [] (hz F A L) Q) → wl_E f B D mm104.2.2.2.2.2.2.2.2 54 [some (.ref 30), some (.int x1), some (.int y2), some (.int y3)] [] (hz F A L) Q := by
  intro m
  induction m with
  | zero =>
    intro B D F A L x1 y2 y3 hm K
    generalize hT : (kv_winningSets_54 (A 40) x1 0 y2 y3) = T at K
    have hE : T = y2 := hT.symm
    clear hT
    refine w_n 4 (pc1 := 60) (ls1 := [some (.ref 30), some (.int x1), some (.int y2), some (.int y3)]) (st1 := [.int (Int32.ofNat (A 40).length), .int y3]) (hp1 := (hz F A L)) rfl ?_
    refine w_ge (p3 := 63) rfl rfl (fun hb => ?_) (fun h => False.elim (by have h : y3.toInt < (Int32.ofNat (A 40).length).toInt := h; omega))
    subst T
    exact cvE rfl rfl rfl (K _)
  | succ m ih =>
    intro B D F A L x1 y2 y3 hm K
    generalize hT : (kv_winningSets_54 (A 40) x1 (m + 1) y2 y3) = T at K
    have hE : T = (if x1.toInt < (2 * y3).toInt then (kv_winningSets_54 (A 40) x1 m (y2 + ((A 40).getD y3.toInt.toNat 0)) (y3 + 1)) else (kv_winningSets_54 (A 40) x1 m y2 (y3 + 1))) := hT.symm
    clear hT
    refine w_n 4 (pc1 := 60) (ls1 := [some (.ref 30), some (.int x1), some (.int y2), some (.int y3)]) (st1 := [.int (Int32.ofNat (A 40).length), .int y3]) (hp1 := (hz F A L)) rfl ?_
    refine w_ge (p3 := 63) rfl rfl (fun h => False.elim (by have h : (Int32.ofNat (A 40).length).toInt ≤ y3.toInt := h; omega)) (fun hb => ?_)
    refine w_n 4 (pc1 := 67) (ls1 := [some (.ref 30), some (.int x1), some (.int y2), some (.int y3)]) (st1 := [.int x1, .int (2 * y3)]) (hp1 := (hz F A L)) rfl ?_
    refine w_le (p3 := 70) rfl rfl (fun h => ?_) (fun h => ?_)
    · have h1 : (2 * y3).toInt ≤ x1.toInt := h
      rw [if_neg (Int.not_lt.mpr h1)] at hE
      refine w_n 2 (pc1 := 54) (ls1 := [some (.ref 30), some (.int x1), some (.int y2), some (.int (y3 + 1))]) (st1 := []) (hp1 := (hz F A L)) rfl ?_
      subst T
      have hb2 := i_up (B := (Int32.ofNat (A 40).length)) hb
      have hb3 : y3.toInt < (Int32.ofNat (A 40).length).toInt := hb
      exact ih (show m = ((Int32.ofNat (A 40).length).toInt - (y3 + 1).toInt).toNat by rw [hb2]; omega) (fun q3 => cvE rfl rfl rfl (K q3))
    · have h1 : x1.toInt < (2 * y3).toInt := h
      rw [if_pos h1] at hE
      refine w_n 4 (pc1 := 76) (ls1 := [some (.ref 30), some (.int x1), some (.int y2), some (.int y3)]) (st1 := [.int y3, .ref 40, .int y2]) (hp1 := (hz F A L)) rfl ?_
      refine w_al (k := 40) (l := (A 40)) rfl rfl rfl (fun ab => ?_)
      refine w_n 4 (pc1 := 54) (ls1 := [some (.ref 30), some (.int x1), some (.int (y2 + ((A 40).getD y3.toInt.toNat 0))), some (.int (y3 + 1))]) (st1 := []) (hp1 := (hz F A L)) rfl ?_
      subst T
      have hb2 := i_up (B := (Int32.ofNat (A 40).length)) hb
      have hb3 : y3.toInt < (Int32.ofNat (A 40).length).toInt := hb
      exact ih (show m = ((Int32.ofNat (A 40).length).toInt - (y3 + 1).toInt).toNat by rw [hb2]; omega) (fun q3 => cvE rfl rfl rfl (K q3))
def kv_winningSets (f3_1 : Int32) (a6 : List Int32) (a40 : List Int32) : Int32 × List Int32 := ((kv_winningSets_54 (kv_winningSets_6 f3_1 a6 12 0 (kv_beginSets a40)) (kt_allBiscuits f3_1 a6) ((Int32.ofNat (kv_winningSets_6 f3_1 a6 12 0 (kv_beginSets a40)).length).toInt).toNat 0 0), (kv_winningSets_6 f3_1 a6 12 0 (kv_beginSets a40)))
theorem t_kv_winningSets {f D : Nat} {F : Nat → Nat → Int32} {A : Nat → List Int32} {L : Nat → List Int64} {Q : Option Value → sm_H → Prop} (K : Q (some (.int ((kv_winningSets (F 3 1) (A 6) (A 40)).1))) (hz F (uA A 40 ((kv_winningSets (F 3 1) (A 6) (A 40)).2)) L)) : wl_M f D 104 [.ref 30] (hz F A L) Q := by
  generalize hT : (kv_winningSets (F 3 1) (A 6) (A 40)) = T at K
  have hE : T = ((kv_winningSets_54 (kv_winningSets_6 (F 3 1) (A 6) 12 0 (kv_beginSets (A 40))) (kt_allBiscuits (F 3 1) (A 6)) ((Int32.ofNat (kv_winningSets_6 (F 3 1) (A 6) 12 0 (kv_beginSets (A 40))).length).toInt).toNat 0 0), (kv_winningSets_6 (F 3 1) (A 6) 12 0 (kv_beginSets (A 40)))) := hT.symm
  clear hT
  refine w_m (E := mm104) rfl ?_
  show wl_E f f (D - 1) mm104.2.2.2.2.2.2.2.2 0 [some (.ref 30), none, none, none] [] (hz F A L) Q
  refine w_n 1 (pc1 := 1) (ls1 := [some (.ref 30), none, none, none]) (st1 := [.ref 30]) (hp1 := (hz F A L)) rfl ?_
  refine w_c rfl rfl (t_kv_beginSets ?_)
  show wl_E f _ _ mm104.2.2.2.2.2.2.2.2 4 [some (.ref 30), none, none, none] [] (hz F (uA A 40 (kv_beginSets (A 40))) L) _
  generalize hG107 : (kv_beginSets (A 40)) = G107 at hE ⊢
  refine w_n 2 (pc1 := 6) (ls1 := [some (.ref 30), some (.int 0), none, none]) (st1 := []) (hp1 := (hz F (uA A 40 G107) L)) rfl ?_
  refine t_kv_winningSets_6 12 (show (12 : Nat) = (12 - (0 : Int32).toInt).toNat by have e0 : (0 : Int32).toInt = 0 := rfl; first | rfl | omega) ?_
  intro r1
  show wl_E f _ _ mm104.2.2.2.2.2.2.2.2 42 [some (.ref 30), some (.int r1), none, none] [] (hz F (uA (uA A 40 G107) 40 (kv_winningSets_6 (F 3 1) (A 6) 12 0 G107)) L) _
  generalize hG110 : (kv_winningSets_6 (F 3 1) (A 6) 12 0 G107) = G110 at hE ⊢
  refine w_n 2 (pc1 := 46) (ls1 := [some (.ref 30), some (.int r1), none, none]) (st1 := [.ref 3]) (hp1 := (hz F (uA (uA A 40 G107) 40 G110) L)) rfl ?_
  refine w_c rfl rfl (t_kt_allBiscuits ?_)
  show wl_E f _ _ mm104.2.2.2.2.2.2.2.2 49 [some (.ref 30), some (.int r1), none, none] [.int (kt_allBiscuits (F 3 1) (A 6))] (hz F (uA (uA A 40 G107) 40 G110) L) _
  generalize hG111 : (kt_allBiscuits (F 3 1) (A 6)) = G111 at hE ⊢
  refine w_n 5 (pc1 := 54) (ls1 := [some (.ref 30), some (.int G111), some (.int 0), some (.int 0)]) (st1 := []) (hp1 := (hz F (uA (uA A 40 G107) 40 G110) L)) rfl ?_
  refine t_kv_winningSets_54 (((Int32.ofNat G110.length).toInt).toNat) (show ((Int32.ofNat G110.length).toInt).toNat = ((Int32.ofNat G110.length).toInt - (0 : Int32).toInt).toNat by have e0 : (0 : Int32).toInt = 0 := rfl; first | rfl | omega) ?_
  intro r2
  show wl_E f _ _ mm104.2.2.2.2.2.2.2.2 85 [some (.ref 30), some (.int G111), some (.int (kv_winningSets_54 G110 G111 ((Int32.ofNat G110.length).toInt).toNat 0 0)), some (.int r2)] [] (hz F (uA (uA A 40 G107) 40 G110) L) _
  generalize hG112 : (kv_winningSets_54 G110 G111 ((Int32.ofNat G110.length).toInt).toNat 0 0) = G112 at hE ⊢
  refine w_n 1 (pc1 := 86) (ls1 := [some (.ref 30), some (.int G111), some (.int G112), some (.int r2)]) (st1 := [.int G112]) (hp1 := (hz F (uA (uA A 40 G107) 40 G110) L)) rfl ?_
  subst T
  exact w_ri rfl (cvQ rfl (funext fun q => if k0 : q = 40 then by subst k0; exact Eq.trans (b := G110) rfl rfl else by unfold uA; simp only [nb1 k0, cond_false]) rfl K)
def kc_power (f3_1 : Int32) (a6 : List Int32) (a40 : List Int32) (x1 : Int32) (x2 : Int32) : Int32 × List Int32 := (if x1 = (-1) then (if x2 = 1 then ((kv_winningSets f3_1 a6 a40).1, (kv_winningSets f3_1 a6 a40).2) else (if x2 = 2 then ((kv_leastWinningSets f3_1 a6 a40).1, (kv_leastWinningSets f3_1 a6 a40).2) else (if (kt_isTold f3_1 x1) = 0 then ((-1), a40) else (if x2 = 0 then ((kv_setsSwungBy f3_1 a6 a40 x1).1, (kv_setsSwungBy f3_1 a6 a40 x1).2) else ((-1), a40))))) else (if (kt_isTold f3_1 x1) = 0 then ((-1), a40) else (if x2 = 0 then ((kv_setsSwungBy f3_1 a6 a40 x1).1, (kv_setsSwungBy f3_1 a6 a40 x1).2) else ((-1), a40))))
theorem t_kc_power {f D : Nat} {F : Nat → Nat → Int32} {A : Nat → List Int32} {L : Nat → List Int64} {Q : Option Value → sm_H → Prop} {x1 : Int32} {x2 : Int32} (K : Q (some (.int ((kc_power (F 3 1) (A 6) (A 40) x1 x2).1))) (hz F (uA A 40 ((kc_power (F 3 1) (A 6) (A 40) x1 x2).2)) L)) : wl_M f D 103 [.ref 0, .int x1, .int x2] (hz F A L) Q := by
  generalize hT : (kc_power (F 3 1) (A 6) (A 40) x1 x2) = T at K
  have hE : T = (if x1 = (-1) then (if x2 = 1 then ((kv_winningSets (F 3 1) (A 6) (A 40)).1, (kv_winningSets (F 3 1) (A 6) (A 40)).2) else (if x2 = 2 then ((kv_leastWinningSets (F 3 1) (A 6) (A 40)).1, (kv_leastWinningSets (F 3 1) (A 6) (A 40)).2) else (if (kt_isTold (F 3 1) x1) = 0 then ((-1), (A 40)) else (if x2 = 0 then ((kv_setsSwungBy (F 3 1) (A 6) (A 40) x1).1, (kv_setsSwungBy (F 3 1) (A 6) (A 40) x1).2) else ((-1), (A 40)))))) else (if (kt_isTold (F 3 1) x1) = 0 then ((-1), (A 40)) else (if x2 = 0 then ((kv_setsSwungBy (F 3 1) (A 6) (A 40) x1).1, (kv_setsSwungBy (F 3 1) (A 6) (A 40) x1).2) else ((-1), (A 40))))) := hT.symm
  clear hT
  refine w_m (E := mm103) rfl ?_
  show wl_E f f (D - 1) mm103.2.2.2.2.2.2.2.2 0 [some (.ref 0), some (.int x1), some (.int x2)] [] (hz F A L) Q
  refine w_n 2 (pc1 := 2) (ls1 := [some (.ref 0), some (.int x1), some (.int x2)]) (st1 := [.int (-1), .int x1]) (hp1 := (hz F A L)) rfl ?_
  refine w_ne (p3 := 5) rfl rfl (fun h => ?_) (fun h => ?_)
  · have h1 : ¬ x1 = (-1) := h
    rw [if_neg h1] at hE
    refine w_n 2 (pc1 := 20) (ls1 := [some (.ref 0), some (.int x1), some (.int x2)]) (st1 := [.int (-1), .int x1]) (hp1 := (hz F A L)) rfl ?_
    refine w_ne (p3 := 23) rfl rfl (fun _ => ?_) (fun h => absurd h h1)
    refine w_n 3 (pc1 := 41) (ls1 := [some (.ref 0), some (.int x1), some (.int x2)]) (st1 := [.int x1, .ref 3]) (hp1 := (hz F A L)) rfl ?_
    refine w_c rfl rfl (t_kt_isTold ?_)
    show wl_E f _ _ mm103.2.2.2.2.2.2.2.2 44 [some (.ref 0), some (.int x1), some (.int x2)] [.int (kt_isTold (F 3 1) x1)] (hz F A L) _
    generalize hG86 : (kt_isTold (F 3 1) x1) = G86 at hE ⊢
    refine w_zeq (p3 := 47) rfl rfl (fun h => ?_) (fun h => ?_)
    · have h2 : G86 = 0 := h
      rw [if_pos h2] at hE
      refine w_n 1 (pc1 := 52) (ls1 := [some (.ref 0), some (.int x1), some (.int x2)]) (st1 := [.int (-1)]) (hp1 := (hz F A L)) rfl ?_
      subst T
      exact w_ri rfl (cvQ rfl (funext fun q => if k0 : q = 40 then by subst k0; exact Eq.trans (b := (A 40)) rfl rfl else by unfold uA; simp only [nb1 k0, cond_false]) rfl K)
    · have h2 : ¬ G86 = 0 := h
      rw [if_neg h2] at hE
      refine w_n 1 (pc1 := 48) (ls1 := [some (.ref 0), some (.int x1), some (.int x2)]) (st1 := [.int x2]) (hp1 := (hz F A L)) rfl ?_
      refine w_zeq (p3 := 51) rfl rfl (fun h => ?_) (fun h => ?_)
      · have h3 : x2 = 0 := h
        rw [if_pos h3] at hE
        refine w_n 3 (pc1 := 58) (ls1 := [some (.ref 0), some (.int x1), some (.int x2)]) (st1 := [.int x1, .ref 30]) (hp1 := (hz F A L)) rfl ?_
        refine w_c rfl rfl (t_kv_setsSwungBy ?_)
        show wl_E f _ _ mm103.2.2.2.2.2.2.2.2 61 [some (.ref 0), some (.int x1), some (.int x2)] [.int (kv_setsSwungBy (F 3 1) (A 6) (A 40) x1).1] (hz F (uA A 40 (kv_setsSwungBy (F 3 1) (A 6) (A 40) x1).2) L) _
        generalize hG97 : (kv_setsSwungBy (F 3 1) (A 6) (A 40) x1) = G97 at hE ⊢
        subst T
        exact w_ri rfl (cvQ rfl rfl rfl K)
      · have h3 : ¬ x2 = 0 := h
        rw [if_neg h3] at hE
        refine w_n 1 (pc1 := 52) (ls1 := [some (.ref 0), some (.int x1), some (.int x2)]) (st1 := [.int (-1)]) (hp1 := (hz F A L)) rfl ?_
        subst T
        exact w_ri rfl (cvQ rfl (funext fun q => if k0 : q = 40 then by subst k0; exact Eq.trans (b := (A 40)) rfl rfl else by unfold uA; simp only [nb1 k0, cond_false]) rfl K)
  · have h1 : x1 = (-1) := h
    rw [if_pos h1] at hE
    refine w_n 2 (pc1 := 7) (ls1 := [some (.ref 0), some (.int x1), some (.int x2)]) (st1 := [.int 1, .int x2]) (hp1 := (hz F A L)) rfl ?_
    refine w_ne (p3 := 10) rfl rfl (fun h => ?_) (fun h => ?_)
    · have h4 : ¬ x2 = 1 := h
      rw [if_neg h4] at hE
      refine w_n 2 (pc1 := 20) (ls1 := [some (.ref 0), some (.int x1), some (.int x2)]) (st1 := [.int (-1), .int x1]) (hp1 := (hz F A L)) rfl ?_
      refine w_ne (p3 := 23) rfl rfl (fun h => absurd h1 h) (fun _ => ?_)
      refine w_n 2 (pc1 := 25) (ls1 := [some (.ref 0), some (.int x1), some (.int x2)]) (st1 := [.int 2, .int x2]) (hp1 := (hz F A L)) rfl ?_
      refine w_ne (p3 := 28) rfl rfl (fun h => ?_) (fun h => ?_)
      · have h5 : ¬ x2 = 2 := h
        rw [if_neg h5] at hE
        refine w_n 3 (pc1 := 41) (ls1 := [some (.ref 0), some (.int x1), some (.int x2)]) (st1 := [.int x1, .ref 3]) (hp1 := (hz F A L)) rfl ?_
        refine w_c rfl rfl (t_kt_isTold ?_)
        show wl_E f _ _ mm103.2.2.2.2.2.2.2.2 44 [some (.ref 0), some (.int x1), some (.int x2)] [.int (kt_isTold (F 3 1) x1)] (hz F A L) _
        generalize hG98 : (kt_isTold (F 3 1) x1) = G98 at hE ⊢
        refine w_zeq (p3 := 47) rfl rfl (fun h => ?_) (fun h => ?_)
        · have h6 : G98 = 0 := h
          rw [if_pos h6] at hE
          refine w_n 1 (pc1 := 52) (ls1 := [some (.ref 0), some (.int x1), some (.int x2)]) (st1 := [.int (-1)]) (hp1 := (hz F A L)) rfl ?_
          subst T
          exact w_ri rfl (cvQ rfl (funext fun q => if k0 : q = 40 then by subst k0; exact Eq.trans (b := (A 40)) rfl rfl else by unfold uA; simp only [nb1 k0, cond_false]) rfl K)
        · have h6 : ¬ G98 = 0 := h
          rw [if_neg h6] at hE
          refine w_n 1 (pc1 := 48) (ls1 := [some (.ref 0), some (.int x1), some (.int x2)]) (st1 := [.int x2]) (hp1 := (hz F A L)) rfl ?_
          refine w_zeq (p3 := 51) rfl rfl (fun h => ?_) (fun h => ?_)
          · have h7 : x2 = 0 := h
            rw [if_pos h7] at hE
            refine w_n 3 (pc1 := 58) (ls1 := [some (.ref 0), some (.int x1), some (.int x2)]) (st1 := [.int x1, .ref 30]) (hp1 := (hz F A L)) rfl ?_
            refine w_c rfl rfl (t_kv_setsSwungBy ?_)
            show wl_E f _ _ mm103.2.2.2.2.2.2.2.2 61 [some (.ref 0), some (.int x1), some (.int x2)] [.int (kv_setsSwungBy (F 3 1) (A 6) (A 40) x1).1] (hz F (uA A 40 (kv_setsSwungBy (F 3 1) (A 6) (A 40) x1).2) L) _
            generalize hG99 : (kv_setsSwungBy (F 3 1) (A 6) (A 40) x1) = G99 at hE ⊢
            subst T
            exact w_ri rfl (cvQ rfl rfl rfl K)
          · have h7 : ¬ x2 = 0 := h
            rw [if_neg h7] at hE
            refine w_n 1 (pc1 := 52) (ls1 := [some (.ref 0), some (.int x1), some (.int x2)]) (st1 := [.int (-1)]) (hp1 := (hz F A L)) rfl ?_
            subst T
            exact w_ri rfl (cvQ rfl (funext fun q => if k0 : q = 40 then by subst k0; exact Eq.trans (b := (A 40)) rfl rfl else by unfold uA; simp only [nb1 k0, cond_false]) rfl K)
      · have h5 : x2 = 2 := h
        rw [if_pos h5] at hE
        refine w_n 2 (pc1 := 32) (ls1 := [some (.ref 0), some (.int x1), some (.int x2)]) (st1 := [.ref 30]) (hp1 := (hz F A L)) rfl ?_
        refine w_c rfl rfl (t_kv_leastWinningSets ?_)
        show wl_E f _ _ mm103.2.2.2.2.2.2.2.2 35 [some (.ref 0), some (.int x1), some (.int x2)] [.int (kv_leastWinningSets (F 3 1) (A 6) (A 40)).1] (hz F (uA A 40 (kv_leastWinningSets (F 3 1) (A 6) (A 40)).2) L) _
        generalize hG106 : (kv_leastWinningSets (F 3 1) (A 6) (A 40)) = G106 at hE ⊢
        subst T
        exact w_ri rfl (cvQ rfl rfl rfl K)
    · have h4 : x2 = 1 := h
      rw [if_pos h4] at hE
      refine w_n 2 (pc1 := 14) (ls1 := [some (.ref 0), some (.int x1), some (.int x2)]) (st1 := [.ref 30]) (hp1 := (hz F A L)) rfl ?_
      refine w_c rfl rfl (t_kv_winningSets ?_)
      show wl_E f _ _ mm103.2.2.2.2.2.2.2.2 17 [some (.ref 0), some (.int x1), some (.int x2)] [.int (kv_winningSets (F 3 1) (A 6) (A 40)).1] (hz F (uA A 40 (kv_winningSets (F 3 1) (A 6) (A 40)).2) L) _
      generalize hG113 : (kv_winningSets (F 3 1) (A 6) (A 40)) = G113 at hE ⊢
      subst T
      exact w_ri rfl (cvQ rfl rfl rfl K)
