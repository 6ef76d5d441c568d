/-! lifts, printed by genlift.py: 5 -/
noncomputable def kv_weighPairs_67 (a32 : List Int32) (x2 : Int32) : Nat → Int32 → List Int32 → List Int32
  | 0, _, a33 => a33
  | m + 1, y3, a33 => (if (a32.getD ((y3 * 6) + x2).toInt.toNat 0).toInt < (a32.getD ((x2 * 6) + y3).toInt.toNat 0).toInt then (kv_weighPairs_67 a32 x2 m (y3 + 1) (a33.set x2.toInt.toNat ((a33.getD x2.toInt.toNat 0) ||| ((1 : Int32) <<< (y3 &&& 31))))) else (kv_weighPairs_67 a32 x2 m (y3 + 1) a33))
theorem t_kv_weighPairs_67 {f : Nat} {Q : Option Value → sm_H → Prop} : ∀ (m : Nat) {B D : Nat} {F : Nat → Nat → Int32} {A : Nat → List Int32} {L : Nat → List Int64} {x1 : Int32} {x2 : Int32} {y3 : Int32}, m = (x1.toInt - y3.toInt).toNat → (∀ q3 : Int32, wl_E f B D mm86.2.2.2.2.2.2.2.2 115 [some (.ref 30), some (.int x1), some (.int x2), some (.int q3)] [] (hz F (uA A 33 (kv_weighPairs_67 (A 32) x2 m y3 (A 33))) L) Q) → wl_E f B D mm86.2.2.2.2.2.2.2.2 67 [some (.ref 30), some (.int x1), some (.int x2), some (.int y3)] [] (hz F A L) Q := by
  intro m
  induction m with
  | zero =>
    intro B D F A L x1 x2 y3 hm K
    generalize hT : (kv_weighPairs_67 (A 32) x2 0 y3 (A 33)) = T at K
    have hE : T = (A 33) := hT.symm
    clear hT
    refine w_n 2 (pc1 := 69) (ls1 := [some (.ref 30), some (.int x1), some (.int x2), some (.int y3)]) (st1 := [.int x1, .int y3]) (hp1 := (hz F A L)) rfl ?_
    refine w_ge (p3 := 72) rfl rfl (fun hb => ?_) (fun h => False.elim (by have h : y3.toInt < x1.toInt := h; omega))
    subst T
    exact cvE rfl (funext fun q => if k0 : q = 33 then by subst k0; exact Eq.trans (b := (A 33)) rfl rfl else by unfold uA; simp only [nb1 k0, cond_false]) rfl (K _)
  | succ m ih =>
    intro B D F A L x1 x2 y3 hm K
    generalize hT : (kv_weighPairs_67 (A 32) x2 (m + 1) y3 (A 33)) = T at K
    have hE : T = (if ((A 32).getD ((y3 * 6) + x2).toInt.toNat 0).toInt < ((A 32).getD ((x2 * 6) + y3).toInt.toNat 0).toInt then (kv_weighPairs_67 (A 32) x2 m (y3 + 1) ((A 33).set x2.toInt.toNat (((A 33).getD x2.toInt.toNat 0) ||| ((1 : Int32) <<< (y3 &&& 31))))) else (kv_weighPairs_67 (A 32) x2 m (y3 + 1) (A 33))) := hT.symm
    clear hT
    refine w_n 2 (pc1 := 69) (ls1 := [some (.ref 30), some (.int x1), some (.int x2), some (.int y3)]) (st1 := [.int x1, .int y3]) (hp1 := (hz F A L)) rfl ?_
    refine w_ge (p3 := 72) rfl rfl (fun h => False.elim (by have h : x1.toInt ≤ y3.toInt := h; omega)) (fun hb => ?_)
    refine w_n 7 (pc1 := 82) (ls1 := [some (.ref 30), some (.int x1), some (.int x2), some (.int y3)]) (st1 := [.int ((x2 * 6) + y3), .ref 32]) (hp1 := (hz F A L)) rfl ?_
    refine w_al (k := 32) (l := (A 32)) rfl rfl rfl (fun _ => ?_)
    refine w_n 7 (pc1 := 93) (ls1 := [some (.ref 30), some (.int x1), some (.int x2), some (.int y3)]) (st1 := [.int ((y3 * 6) + x2), .ref 32, .int ((A 32).getD ((x2 * 6) + y3).toInt.toNat 0)]) (hp1 := (hz F A L)) rfl ?_
    refine w_al (k := 32) (l := (A 32)) rfl rfl rfl (fun _ => ?_)
    refine w_le (p3 := 97) rfl rfl (fun h => ?_) (fun h => ?_)
    · have h1 : ((A 32).getD ((x2 * 6) + y3).toInt.toNat 0).toInt ≤ ((A 32).getD ((y3 * 6) + x2).toInt.toNat 0).toInt := h
      rw [if_neg (Int.not_lt.mpr h1)] at hE
      refine w_n 2 (pc1 := 67) (ls1 := [some (.ref 30), some (.int x1), some (.int x2), some (.int (y3 + 1))]) (st1 := []) (hp1 := (hz F A L)) rfl ?_
      subst T
      have hb2 := i_up (B := x1) hb
      have hb3 : y3.toInt < x1.toInt := hb
      exact ih (show m = (x1.toInt - (y3 + 1).toInt).toNat by rw [hb2]; omega) (fun q3 => cvE rfl (funext fun q => if k0 : q = 33 then by subst k0; exact Eq.trans (b := (kv_weighPairs_67 (A 32) x2 m (y3 + 1) (A 33))) rfl rfl else by unfold uA; simp only [nb1 k0, cond_false]) rfl (K q3))
    · have h1 : ((A 32).getD ((y3 * 6) + x2).toInt.toNat 0).toInt < ((A 32).getD ((x2 * 6) + y3).toInt.toNat 0).toInt := h
      rw [if_pos h1] at hE
      refine w_n 4 (pc1 := 103) (ls1 := [some (.ref 30), some (.int x1), some (.int x2), some (.int y3)]) (st1 := [.int x2, .ref 33, .int x2, .ref 33]) (hp1 := (hz F A L)) rfl ?_
      refine w_al (k := 33) (l := (A 33)) rfl rfl rfl (fun _ => ?_)
      refine w_n 4 (pc1 := 108) (ls1 := [some (.ref 30), some (.int x1), some (.int x2), some (.int y3)]) (st1 := [.int (((A 33).getD x2.toInt.toNat 0) ||| ((1 : Int32) <<< (y3 &&& 31))), .int x2, .ref 33]) (hp1 := (hz F A L)) rfl ?_
      refine w_as (k := 33) (l := (A 33)) (hp1 := (hz F (uA A 33 ((A 33).set x2.toInt.toNat (((A 33).getD x2.toInt.toNat 0) ||| ((1 : Int32) <<< (y3 &&& 31))))) L)) rfl rfl rfl (hz_s33 _) (fun _ => ?_)
      refine w_n 2 (pc1 := 67) (ls1 := [some (.ref 30), some (.int x1), some (.int x2), some (.int (y3 + 1))]) (st1 := []) (hp1 := (hz F (uA A 33 ((A 33).set x2.toInt.toNat (((A 33).getD x2.toInt.toNat 0) ||| ((1 : Int32) <<< (y3 &&& 31))))) L)) rfl ?_
      subst T
      have hb2 := i_up (B := x1) hb
      have hb3 : y3.toInt < x1.toInt := hb
      exact ih (show m = (x1.toInt - (y3 + 1).toInt).toNat by rw [hb2]; omega) (fun q3 => cvE rfl (funext fun q => if k0 : q = 33 then by subst k0; exact Eq.trans (b := (kv_weighPairs_67 (A 32) x2 m (y3 + 1) ((A 33).set x2.toInt.toNat (((A 33).getD x2.toInt.toNat 0) ||| ((1 : Int32) <<< (y3 &&& 31)))))) rfl rfl else by unfold uA; simp only [nb1 k0, cond_false]) rfl (K q3))
noncomputable def kv_weighPairs_53 (a32 : List Int32) (x1 : Int32) : Nat → Int32 → List Int32 → List Int32
  | 0, _, a33 => a33
  | m + 1, y2, a33 => (kv_weighPairs_53 a32 x1 m (y2 + 1) (kv_weighPairs_67 a32 y2 x1.toInt.toNat 0 (a33.set y2.toInt.toNat 0)))
theorem t_kv_weighPairs_53 {f : Nat} {Q : Option Value → sm_H → Prop} : ∀ (m : Nat) {B D : Nat} {F : Nat → Nat → Int32} {A : Nat → List Int32} {L : Nat → List Int64} {x1 : Int32} {y2 : Int32} {o3 : Option Value}, m = (x1.toInt - y2.toInt).toNat → (∀ q2 : Int32, ∀ q3 : Option Value, wl_E f B D mm86.2.2.2.2.2.2.2.2 121 [some (.ref 30), some (.int x1), some (.int q2), q3] [] (hz F (uA A 33 (kv_weighPairs_53 (A 32) x1 m y2 (A 33))) L) Q) → wl_E f B D mm86.2.2.2.2.2.2.2.2 53 [some (.ref 30), some (.int x1), some (.int y2), o3] [] (hz F A L) Q := by
  intro m
  induction m with
  | zero =>
    intro B D F A L x1 y2 o3 hm K
    generalize hT : (kv_weighPairs_53 (A 32) x1 0 y2 (A 33)) = T at K
    have hE : T = (A 33) := hT.symm
    clear hT
    refine w_n 2 (pc1 := 55) (ls1 := [some (.ref 30), some (.int x1), some (.int y2), o3]) (st1 := [.int x1, .int y2]) (hp1 := (hz F A L)) rfl ?_
    refine w_ge (p3 := 58) rfl rfl (fun hb => ?_) (fun h => False.elim (by have h : y2.toInt < x1.toInt := h; omega))
    subst T
    exact cvE rfl (funext fun q => if k0 : q = 33 then by subst k0; exact Eq.trans (b := (A 33)) rfl rfl else by unfold uA; simp only [nb1 k0, cond_false]) rfl (K _ _)
  | succ m ih =>
    intro B D F A L x1 y2 o3 hm K
    generalize hT : (kv_weighPairs_53 (A 32) x1 (m + 1) y2 (A 33)) = T at K
    have hE : T = (kv_weighPairs_53 (A 32) x1 m (y2 + 1) (kv_weighPairs_67 (A 32) y2 x1.toInt.toNat 0 ((A 33).set y2.toInt.toNat 0))) := hT.symm
    clear hT
    refine w_n 2 (pc1 := 55) (ls1 := [some (.ref 30), some (.int x1), some (.int y2), o3]) (st1 := [.int x1, .int y2]) (hp1 := (hz F A L)) rfl ?_
    refine w_ge (p3 := 58) rfl rfl (fun h => False.elim (by have h : x1.toInt ≤ y2.toInt := h; omega)) (fun hb => ?_)
    refine w_n 4 (pc1 := 64) (ls1 := [some (.ref 30), some (.int x1), some (.int y2), o3]) (st1 := [.int 0, .int y2, .ref 33]) (hp1 := (hz F A L)) rfl ?_
    refine w_as (k := 33) (l := (A 33)) (hp1 := (hz F (uA A 33 ((A 33).set y2.toInt.toNat 0)) L)) rfl rfl rfl (hz_s33 _) (fun ab => ?_)
    refine w_n 2 (pc1 := 67) (ls1 := [some (.ref 30), some (.int x1), some (.int y2), some (.int 0)]) (st1 := []) (hp1 := (hz F (uA A 33 ((A 33).set y2.toInt.toNat 0)) L)) rfl ?_
    refine t_kv_weighPairs_67 x1.toInt.toNat (show x1.toInt.toNat = (x1.toInt - (0 : Int32).toInt).toNat by have e0 : (0 : Int32).toInt = 0 := rfl; first | rfl | omega) ?_
    intro r1
    show wl_E f _ _ mm86.2.2.2.2.2.2.2.2 115 [some (.ref 30), some (.int x1), some (.int y2), some (.int r1)] [] (hz F (uA (uA A 33 ((A 33).set y2.toInt.toNat 0)) 33 (kv_weighPairs_67 (A 32) y2 x1.toInt.toNat 0 ((A 33).set y2.toInt.toNat 0))) L) _
    generalize hG140 : (kv_weighPairs_67 (A 32) y2 x1.toInt.toNat 0 ((A 33).set y2.toInt.toNat 0)) = G140 at hE ⊢
    refine w_n 2 (pc1 := 53) (ls1 := [some (.ref 30), some (.int x1), some (.int (y2 + 1)), some (.int r1)]) (st1 := []) (hp1 := (hz F (uA (uA A 33 ((A 33).set y2.toInt.toNat 0)) 33 G140) L)) rfl ?_
    subst T
    have hb2 := i_up (B := x1) hb
    have hb3 : y2.toInt < x1.toInt := hb
    exact ih (show m = (x1.toInt - (y2 + 1).toInt).toNat by rw [hb2]; omega) (fun q2 q3 => cvE rfl (funext fun q => if k0 : q = 33 then by subst k0; exact Eq.trans (b := (kv_weighPairs_53 (A 32) x1 m (y2 + 1) G140)) rfl rfl else by unfold uA; simp only [nb1 k0, cond_false]) rfl (K q2 q3))
noncomputable def kv_weighPairs (f3_0 : Int32) (f3_1 : Int32) (a6 : List Int32) (a32 : List Int32) (a33 : List Int32) (l11 : List Int64) : List Int32 × List Int32 := ((kv_weighPairs_10 f3_1 a6 l11 f3_0 f3_0.toInt.toNat 0 a32), (kv_weighPairs_53 (kv_weighPairs_10 f3_1 a6 l11 f3_0 f3_0.toInt.toNat 0 a32) f3_0 f3_0.toInt.toNat 0 a33))
theorem t_kv_weighPairs {f D : Nat} {F : Nat → Nat → Int32} {A : Nat → List Int32} {L : Nat → List Int64} {Q : Option Value → sm_H → Prop} (K : Q none (hz F (uA (uA A 32 ((kv_weighPairs (F 3 0) (F 3 1) (A 6) (A 32) (A 33) (L 11)).1)) 33 ((kv_weighPairs (F 3 0) (F 3 1) (A 6) (A 32) (A 33) (L 11)).2)) L)) : wl_M f D 86 [.ref 30] (hz F A L) Q := by
  generalize hT : (kv_weighPairs (F 3 0) (F 3 1) (A 6) (A 32) (A 33) (L 11)) = T at K
  have hE : T = ((kv_weighPairs_10 (F 3 1) (A 6) (L 11) (F 3 0) (F 3 0).toInt.toNat 0 (A 32)), (kv_weighPairs_53 (kv_weighPairs_10 (F 3 1) (A 6) (L 11) (F 3 0) (F 3 0).toInt.toNat 0 (A 32)) (F 3 0) (F 3 0).toInt.toNat 0 (A 33))) := hT.symm
  clear hT
  refine w_m (E := mm86) rfl ?_
  show wl_E f f (D - 1) mm86.2.2.2.2.2.2.2.2 0 [some (.ref 30), none, none, none] [] (hz F A L) Q
  refine w_n 6 (pc1 := 10) (ls1 := [some (.ref 30), some (.int (F 3 0)), some (.int 0), none]) (st1 := []) (hp1 := (hz F A L)) rfl ?_
  refine t_kv_weighPairs_10 (F 3 0).toInt.toNat (show (F 3 0).toInt.toNat = ((F 3 0).toInt - (0 : Int32).toInt).toNat by have e0 : (0 : Int32).toInt = 0 := rfl; first | rfl | omega) ?_
  intro r1 r2
  show wl_E f _ _ mm86.2.2.2.2.2.2.2.2 51 [some (.ref 30), some (.int (F 3 0)), some (.int r1), r2] [] (hz F (uA A 32 (kv_weighPairs_10 (F 3 1) (A 6) (L 11) (F 3 0) (F 3 0).toInt.toNat 0 (A 32))) L) _
  generalize hG139 : (kv_weighPairs_10 (F 3 1) (A 6) (L 11) (F 3 0) (F 3 0).toInt.toNat 0 (A 32)) = G139 at hE ⊢
  refine w_n 2 (pc1 := 53) (ls1 := [some (.ref 30), some (.int (F 3 0)), some (.int 0), r2]) (st1 := []) (hp1 := (hz F (uA A 32 G139) L)) rfl ?_
  refine t_kv_weighPairs_53 (F 3 0).toInt.toNat (show (F 3 0).toInt.toNat = ((F 3 0).toInt - (0 : Int32).toInt).toNat by have e0 : (0 : Int32).toInt = 0 := rfl; first | rfl | omega) ?_
  intro r3 r4
  show wl_E f _ _ mm86.2.2.2.2.2.2.2.2 121 [some (.ref 30), some (.int (F 3 0)), some (.int r3), r4] [] (hz F (uA (uA A 32 G139) 33 (kv_weighPairs_53 G139 (F 3 0) (F 3 0).toInt.toNat 0 (A 33))) L) _
  generalize hG141 : (kv_weighPairs_53 G139 (F 3 0) (F 3 0).toInt.toNat 0 (A 33)) = G141 at hE ⊢
  subst T
  exact w_r rfl rfl (cvQ rfl rfl rfl K)
noncomputable def kc_best_17 (a32 : List Int32) (a33 : List Int32) (x1 : Int32) : Nat → Int32 → Int32 × List Int32 × List Int32
  | 0, _ => ((-2), a32, a33)
  | m + 1, y2 => (if ((a33.getD y2.toInt.toNat 0) ||| ((1 : Int32) <<< (y2 &&& 31))) = x1 then (y2, a32, a33) else (kc_best_17 a32 a33 x1 m (y2 + 1)))
theorem t_kc_best_17 {f : Nat} {Q : Option Value → sm_H → Prop} : ∀ (m : Nat) {B D : Nat} {F : Nat → Nat → Int32} {A : Nat → List Int32} {L : Nat → List Int64} {x1 : Int32} {y2 : Int32}, m = ((F 3 0).toInt - y2.toInt).toNat → (Q (some (.int ((kc_best_17 (A 32) (A 33) x1 m y2).1))) (hz F (uA (uA A 32 ((kc_best_17 (A 32) (A 33) x1 m y2).2.1)) 33 ((kc_best_17 (A 32) (A 33) x1 m y2).2.2)) L)) → wl_E f B D mm85.2.2.2.2.2.2.2.2 17 [some (.ref 0), some (.int x1), some (.int y2)] [] (hz F A L) Q := by
  intro m
  induction m with
  | zero =>
    intro B D F A L x1 y2 hm K
    generalize hT : (kc_best_17 (A 32) (A 33) x1 0 y2) = T at K
    have hE : T = ((-2), (A 32), (A 33)) := hT.symm
    clear hT
    refine w_n 4 (pc1 := 25) (ls1 := [some (.ref 0), some (.int x1), some (.int y2)]) (st1 := [.int (F 3 0), .int y2]) (hp1 := (hz F A L)) rfl ?_
    refine w_ge (p3 := 28) rfl rfl (fun hb => ?_) (fun h => False.elim (by have h : y2.toInt < (F 3 0).toInt := h; omega))
    refine w_n 1 (pc1 := 55) (ls1 := [some (.ref 0), some (.int x1), some (.int y2)]) (st1 := [.int (-2)]) (hp1 := (hz F A L)) rfl ?_
    subst T
    exact w_ri rfl (cvQ rfl (funext fun q => if k0 : q = 32 then by subst k0; exact Eq.trans (b := (A 32)) rfl rfl else if k1 : q = 33 then by subst k1; exact Eq.trans (b := (A 33)) rfl rfl else by unfold uA; simp only [nb1 k0, nb1 k1, cond_false]) rfl K)
  | succ m ih =>
    intro B D F A L x1 y2 hm K
    generalize hT : (kc_best_17 (A 32) (A 33) x1 (m + 1) y2) = T at K
    have hE : T = (if (((A 33).getD y2.toInt.toNat 0) ||| ((1 : Int32) <<< (y2 &&& 31))) = x1 then (y2, (A 32), (A 33)) else (kc_best_17 (A 32) (A 33) x1 m (y2 + 1))) := hT.symm
    clear hT
    refine w_n 4 (pc1 := 25) (ls1 := [some (.ref 0), some (.int x1), some (.int y2)]) (st1 := [.int (F 3 0), .int y2]) (hp1 := (hz F A L)) rfl ?_
    refine w_ge (p3 := 28) rfl rfl (fun h => False.elim (by have h : (F 3 0).toInt ≤ y2.toInt := h; omega)) (fun hb => ?_)
    refine w_n 4 (pc1 := 36) (ls1 := [some (.ref 0), some (.int x1), some (.int y2)]) (st1 := [.int y2, .ref 33]) (hp1 := (hz F A L)) rfl ?_
    refine w_al (k := 33) (l := (A 33)) rfl rfl rfl (fun ab => ?_)
    refine w_n 5 (pc1 := 42) (ls1 := [some (.ref 0), some (.int x1), some (.int y2)]) (st1 := [.int x1, .int (((A 33).getD y2.toInt.toNat 0) ||| ((1 : Int32) <<< (y2 &&& 31)))]) (hp1 := (hz F A L)) rfl ?_
    refine w_ne (p3 := 45) rfl rfl (fun h => ?_) (fun h => ?_)
    · have h1 : ¬ (((A 33).getD y2.toInt.toNat 0) ||| ((1 : Int32) <<< (y2 &&& 31))) = x1 := h
      rw [if_neg h1] at hE
      refine w_n 2 (pc1 := 17) (ls1 := [some (.ref 0), some (.int x1), some (.int (y2 + 1))]) (st1 := []) (hp1 := (hz F A L)) rfl ?_
      subst T
      have hb2 := i_up (B := (F 3 0)) hb
      have hb3 : y2.toInt < (F 3 0).toInt := hb
      exact ih (show m = ((F 3 0).toInt - (y2 + 1).toInt).toNat by rw [hb2]; omega) (cvQ rfl (funext fun q => if k0 : q = 32 then by subst k0; exact Eq.trans (b := (kc_best_17 (A 32) (A 33) x1 m (y2 + 1)).2.1) rfl rfl else if k1 : q = 33 then by subst k1; exact Eq.trans (b := (kc_best_17 (A 32) (A 33) x1 m (y2 + 1)).2.2) rfl rfl else by unfold uA; simp only [nb1 k0, nb1 k1, cond_false]) rfl K)
    · have h1 : (((A 33).getD y2.toInt.toNat 0) ||| ((1 : Int32) <<< (y2 &&& 31))) = x1 := h
      rw [if_pos h1] at hE
      refine w_n 1 (pc1 := 46) (ls1 := [some (.ref 0), some (.int x1), some (.int y2)]) (st1 := [.int y2]) (hp1 := (hz F A L)) rfl ?_
      subst T
      exact w_ri rfl (cvQ rfl (funext fun q => if k0 : q = 32 then by subst k0; exact Eq.trans (b := (A 32)) rfl rfl else if k1 : q = 33 then by subst k1; exact Eq.trans (b := (A 33)) rfl rfl else by unfold uA; simp only [nb1 k0, nb1 k1, cond_false]) rfl K)
noncomputable def kc_best (f3_0 : Int32) (f3_1 : Int32) (a6 : List Int32) (a32 : List Int32) (a33 : List Int32) (l11 : List Int64) : Int32 × List Int32 × List Int32 := (kc_best_17 (kv_weighPairs f3_0 f3_1 a6 a32 a33 l11).1 (kv_weighPairs f3_0 f3_1 a6 a32 a33 l11).2 (kt_allMeasures f3_0) f3_0.toInt.toNat 0)
theorem t_kc_best {f D : Nat} {F : Nat → Nat → Int32} {A : Nat → List Int32} {L : Nat → List Int64} {Q : Option Value → sm_H → Prop} (K : Q (some (.int ((kc_best (F 3 0) (F 3 1) (A 6) (A 32) (A 33) (L 11)).1))) (hz F (uA (uA A 32 ((kc_best (F 3 0) (F 3 1) (A 6) (A 32) (A 33) (L 11)).2.1)) 33 ((kc_best (F 3 0) (F 3 1) (A 6) (A 32) (A 33) (L 11)).2.2)) L)) : wl_M f D 85 [.ref 0] (hz F A L) Q := by
  generalize hT : (kc_best (F 3 0) (F 3 1) (A 6) (A 32) (A 33) (L 11)) = T at K
  have hE : T = (kc_best_17 (kv_weighPairs (F 3 0) (F 3 1) (A 6) (A 32) (A 33) (L 11)).1 (kv_weighPairs (F 3 0) (F 3 1) (A 6) (A 32) (A 33) (L 11)).2 (kt_allMeasures (F 3 0)) (F 3 0).toInt.toNat 0) := hT.symm
  clear hT
  refine w_m (E := mm85) rfl ?_
  show wl_E f f (D - 1) mm85.2.2.2.2.2.2.2.2 0 [some (.ref 0), none, none] [] (hz F A L) Q
  refine w_n 2 (pc1 := 4) (ls1 := [some (.ref 0), none, none]) (st1 := [.ref 30]) (hp1 := (hz F A L)) rfl ?_
  refine w_c rfl rfl (t_kv_weighPairs ?_)
  show wl_E f _ _ mm85.2.2.2.2.2.2.2.2 7 [some (.ref 0), none, none] [] (hz F (uA (uA A 32 (kv_weighPairs (F 3 0) (F 3 1) (A 6) (A 32) (A 33) (L 11)).1) 33 (kv_weighPairs (F 3 0) (F 3 1) (A 6) (A 32) (A 33) (L 11)).2) L) _
  generalize hG142 : (kv_weighPairs (F 3 0) (F 3 1) (A 6) (A 32) (A 33) (L 11)) = G142 at hE ⊢
  refine w_n 2 (pc1 := 11) (ls1 := [some (.ref 0), none, none]) (st1 := [.ref 3]) (hp1 := (hz F (uA (uA A 32 G142.1) 33 G142.2) L)) rfl ?_
  refine w_c rfl rfl (t_kt_allMeasures ?_)
  show wl_E f _ _ mm85.2.2.2.2.2.2.2.2 14 [some (.ref 0), none, none] [.int (kt_allMeasures (F 3 0))] (hz F (uA (uA A 32 G142.1) 33 G142.2) L) _
  generalize hG143 : (kt_allMeasures (F 3 0)) = G143 at hE ⊢
  refine w_n 3 (pc1 := 17) (ls1 := [some (.ref 0), some (.int G143), some (.int 0)]) (st1 := []) (hp1 := (hz F (uA (uA A 32 G142.1) 33 G142.2) L)) rfl ?_
  subst T
  exact t_kc_best_17 _ (show (F 3 0).toInt.toNat = ((F 3 0).toInt - (0 : Int32).toInt).toNat by have e0 : (0 : Int32).toInt = 0 := rfl; first | rfl | omega) (cvQ rfl (funext fun q => if k0 : q = 32 then by subst k0; exact Eq.trans (b := (kc_best_17 G142.1 G142.2 G143 (F 3 0).toInt.toNat 0).2.1) rfl rfl else if k1 : q = 33 then by subst k1; exact Eq.trans (b := (kc_best_17 G142.1 G142.2 G143 (F 3 0).toInt.toNat 0).2.2) rfl rfl else by unfold uA; simp only [nb1 k0, nb1 k1, cond_false]) rfl K)
noncomputable def km_beats (a68 : List Int32) (x1 : Int32) (x2 : Int32) : Int32 := (if (km_pairOf a68 x2 x1).toInt < (km_pairOf a68 x1 x2).toInt then 1 else 0)
theorem t_km_beats {f D : Nat} {F : Nat → Nat → Int32} {A : Nat → List Int32} {L : Nat → List Int64} {Q : Option Value → sm_H → Prop} {x1 : Int32} {x2 : Int32} (K : Q (some (.int (km_beats (A 68) x1 x2))) (hz F A L)) : wl_M f D 213 [.ref 67, .int x1, .int x2] (hz F A L) Q := by
  generalize hT : (km_beats (A 68) x1 x2) = T at K
  have hE : T = (if (km_pairOf (A 68) x2 x1).toInt < (km_pairOf (A 68) x1 x2).toInt then 1 else 0) := hT.symm
  clear hT
  refine w_m (E := mm213) rfl ?_
  show wl_E f f (D - 1) mm213.2.2.2.2.2.2.2.2 0 [some (.ref 67), some (.int x1), some (.int x2)] [] (hz F A L) Q
  refine w_n 3 (pc1 := 3) (ls1 := [some (.ref 67), some (.int x1), some (.int x2)]) (st1 := [.int x2, .int x1, .ref 67]) (hp1 := (hz F A L)) rfl ?_
  refine w_c rfl rfl (t_km_pairOf ?_)
  show wl_E f _ _ mm213.2.2.2.2.2.2.2.2 6 [some (.ref 67), some (.int x1), some (.int x2)] [.int (km_pairOf (A 68) x1 x2)] (hz F A L) _
  generalize hG146 : (km_pairOf (A 68) x1 x2) = G146 at hE ⊢
  refine w_n 3 (pc1 := 9) (ls1 := [some (.ref 67), some (.int x1), some (.int x2)]) (st1 := [.int x1, .int x2, .ref 67, .int G146]) (hp1 := (hz F A L)) rfl ?_
  refine w_c rfl rfl (t_km_pairOf ?_)
  show wl_E f _ _ mm213.2.2.2.2.2.2.2.2 12 [some (.ref 67), some (.int x1), some (.int x2)] [.int (km_pairOf (A 68) x2 x1), .int G146] (hz F A L) _
  generalize hG147 : (km_pairOf (A 68) x2 x1) = G147 at hE ⊢
  refine w_le (p3 := 15) rfl rfl (fun h => ?_) (fun h => ?_)
  · have h1 : G146.toInt ≤ G147.toInt := h
    rw [if_neg (Int.not_lt.mpr h1)] at hE
    refine w_n 1 (pc1 := 20) (ls1 := [some (.ref 67), some (.int x1), some (.int x2)]) (st1 := [.int 0]) (hp1 := (hz F A L)) rfl ?_
    subst T
    exact w_ri rfl (cvQ rfl rfl rfl K)
  · have h1 : G147.toInt < G146.toInt := h
    rw [if_pos h1] at hE
    refine w_n 2 (pc1 := 20) (ls1 := [some (.ref 67), some (.int x1), some (.int x2)]) (st1 := [.int 1]) (hp1 := (hz F A L)) rfl ?_
    subst T
    exact w_ri rfl (cvQ rfl rfl rfl K)
noncomputable def km_beatsAll_2 (a68 : List Int32) (x1 : Int32) (x2 : Int32) : Nat → Int32 → Int32
  | 0, _ => 1
  | m + 1, y3 => (if (km_has x2 y3) = 0 then (km_beatsAll_2 a68 x1 x2 m (y3 + 1)) else (if (km_beats a68 x1 y3) = 0 then 0 else (km_beatsAll_2 a68 x1 x2 m (y3 + 1))))
theorem t_km_beatsAll_2 {f : Nat} {Q : Option Value → sm_H → Prop} : ∀ (m : Nat) {B D : Nat} {F : Nat → Nat → Int32} {A : Nat → List Int32} {L : Nat → List Int64} {x1 : Int32} {x2 : Int32} {y3 : Int32}, m = ((F 67 3).toInt - y3.toInt).toNat → (Q (some (.int (km_beatsAll_2 (A 68) x1 x2 m y3))) (hz F A L)) → wl_E f B D mm212.2.2.2.2.2.2.2.2 2 [some (.ref 67), some (.int x1), some (.int x2), some (.int y3)] [] (hz F A L) Q := by
  intro m
  induction m with
  | zero =>
    intro B D F A L x1 x2 y3 hm K
    generalize hT : (km_beatsAll_2 (A 68) x1 x2 0 y3) = T at K
    have hE : T = 1 := hT.symm
    clear hT
    refine w_n 3 (pc1 := 7) (ls1 := [some (.ref 67), some (.int x1), some (.int x2), some (.int y3)]) (st1 := [.int (F 67 3), .int y3]) (hp1 := (hz F A L)) rfl ?_
    refine w_ge (p3 := 10) rfl rfl (fun hb => ?_) (fun h => False.elim (by have h : y3.toInt < (F 67 3).toInt := h; omega))
    refine w_n 1 (pc1 := 36) (ls1 := [some (.ref 67), some (.int x1), some (.int x2), some (.int y3)]) (st1 := [.int 1]) (hp1 := (hz F A L)) rfl ?_
    subst T
    exact w_ri rfl (cvQ rfl rfl rfl K)
  | succ m ih =>
    intro B D F A L x1 x2 y3 hm K
    generalize hT : (km_beatsAll_2 (A 68) x1 x2 (m + 1) y3) = T at K
    have hE : T = (if (km_has x2 y3) = 0 then (km_beatsAll_2 (A 68) x1 x2 m (y3 + 1)) else (if (km_beats (A 68) x1 y3) = 0 then 0 else (km_beatsAll_2 (A 68) x1 x2 m (y3 + 1)))) := hT.symm
    clear hT
    refine w_n 3 (pc1 := 7) (ls1 := [some (.ref 67), some (.int x1), some (.int x2), some (.int y3)]) (st1 := [.int (F 67 3), .int y3]) (hp1 := (hz F A L)) rfl ?_
    refine w_ge (p3 := 10) rfl rfl (fun h => False.elim (by have h : (F 67 3).toInt ≤ y3.toInt := h; omega)) (fun hb => ?_)
    refine w_n 2 (pc1 := 12) (ls1 := [some (.ref 67), some (.int x1), some (.int x2), some (.int y3)]) (st1 := [.int y3, .int x2]) (hp1 := (hz F A L)) rfl ?_
    refine w_c rfl rfl (t_km_has ?_)
    show wl_E f _ _ mm212.2.2.2.2.2.2.2.2 15 [some (.ref 67), some (.int x1), some (.int x2), some (.int y3)] [.int (km_has x2 y3)] (hz F A L) _
    generalize hG145 : (km_has x2 y3) = G145 at hE ⊢
    refine w_zeq (p3 := 18) rfl rfl (fun h => ?_) (fun h => ?_)
    · have h1 : G145 = 0 := h
      rw [if_pos h1] at hE
      refine w_n 2 (pc1 := 2) (ls1 := [some (.ref 67), some (.int x1), some (.int x2), some (.int (y3 + 1))]) (st1 := []) (hp1 := (hz F A L)) rfl ?_
      subst T
      have hb2 := i_up (B := (F 67 3)) hb
      have hb3 : y3.toInt < (F 67 3).toInt := hb
      exact ih (show m = ((F 67 3).toInt - (y3 + 1).toInt).toNat by rw [hb2]; omega) (cvQ rfl rfl rfl K)
    · have h1 : ¬ G145 = 0 := h
      rw [if_neg h1] at hE
      refine w_n 3 (pc1 := 21) (ls1 := [some (.ref 67), some (.int x1), some (.int x2), some (.int y3)]) (st1 := [.int y3, .int x1, .ref 67]) (hp1 := (hz F A L)) rfl ?_
      refine w_c rfl rfl (t_km_beats ?_)
      show wl_E f _ _ mm212.2.2.2.2.2.2.2.2 24 [some (.ref 67), some (.int x1), some (.int x2), some (.int y3)] [.int (km_beats (A 68) x1 y3)] (hz F A L) _
      generalize hG148 : (km_beats (A 68) x1 y3) = G148 at hE ⊢
      refine w_zne (p3 := 27) rfl rfl (fun h => ?_) (fun h => ?_)
      · have h2 : ¬ G148 = 0 := h
        rw [if_neg h2] at hE
        refine w_n 2 (pc1 := 2) (ls1 := [some (.ref 67), some (.int x1), some (.int x2), some (.int (y3 + 1))]) (st1 := []) (hp1 := (hz F A L)) rfl ?_
        subst T
        have hb2 := i_up (B := (F 67 3)) hb
        have hb3 : y3.toInt < (F 67 3).toInt := hb
        exact ih (show m = ((F 67 3).toInt - (y3 + 1).toInt).toNat by rw [hb2]; omega) (cvQ rfl rfl rfl K)
      · have h2 : G148 = 0 := h
        rw [if_pos h2] at hE
        refine w_n 1 (pc1 := 28) (ls1 := [some (.ref 67), some (.int x1), some (.int x2), some (.int y3)]) (st1 := [.int 0]) (hp1 := (hz F A L)) rfl ?_
        subst T
        exact w_ri rfl (cvQ rfl rfl rfl K)
noncomputable def km_beatsAll (f67_3 : Int32) (a68 : List Int32) (x1 : Int32) (x2 : Int32) : Int32 := (km_beatsAll_2 a68 x1 x2 f67_3.toInt.toNat 0)
theorem t_km_beatsAll {f D : Nat} {F : Nat → Nat → Int32} {A : Nat → List Int32} {L : Nat → List Int64} {Q : Option Value → sm_H → Prop} {x1 : Int32} {x2 : Int32} (K : Q (some (.int (km_beatsAll (F 67 3) (A 68) x1 x2))) (hz F A L)) : wl_M f D 212 [.ref 67, .int x1, .int x2] (hz F A L) Q := by
  generalize hT : (km_beatsAll (F 67 3) (A 68) x1 x2) = T at K
  have hE : T = (km_beatsAll_2 (A 68) x1 x2 (F 67 3).toInt.toNat 0) := hT.symm
  clear hT
  refine w_m (E := mm212) rfl ?_
  show wl_E f f (D - 1) mm212.2.2.2.2.2.2.2.2 0 [some (.ref 67), some (.int x1), some (.int x2), none] [] (hz F A L) Q
  refine w_n 2 (pc1 := 2) (ls1 := [some (.ref 67), some (.int x1), some (.int x2), some (.int 0)]) (st1 := []) (hp1 := (hz F A L)) rfl ?_
  subst T
  exact t_km_beatsAll_2 _ (show (F 67 3).toInt.toNat = ((F 67 3).toInt - (0 : Int32).toInt).toNat by have e0 : (0 : Int32).toInt = 0 := rfl; first | rfl | omega) (cvQ rfl rfl rfl K)
noncomputable def km_best_2 (f67_3 : Int32) (a68 : List Int32)  : Nat → Int32 → Int32
  | 0, _ => (-2)
  | m + 1, y1 => (if (km_beatsAll f67_3 a68 y1 ((km_allMeasures f67_3) &&& (((1 : Int32) <<< (y1 &&& 31)) ^^^ (-1)))) = 0 then (km_best_2 f67_3 a68 m (y1 + 1)) else y1)
theorem t_km_best_2 {f : Nat} {Q : Option Value → sm_H → Prop} : ∀ (m : Nat) {B D : Nat} {F : Nat → Nat → Int32} {A : Nat → List Int32} {L : Nat → List Int64} {y1 : Int32}, m = ((F 67 3).toInt - y1.toInt).toNat → (Q (some (.int (km_best_2 (F 67 3) (A 68) m y1))) (hz F A L)) → wl_E f B D mm211.2.2.2.2.2.2.2.2 2 [some (.ref 67), some (.int y1)] [] (hz F A L) Q := by
  intro m
  induction m with
  | zero =>
    intro B D F A L y1 hm K
    generalize hT : (km_best_2 (F 67 3) (A 68) 0 y1) = T at K
    have hE : T = (-2) := hT.symm
    clear hT
    refine w_n 3 (pc1 := 7) (ls1 := [some (.ref 67), some (.int y1)]) (st1 := [.int (F 67 3), .int y1]) (hp1 := (hz F A L)) rfl ?_
    refine w_ge (p3 := 10) rfl rfl (fun hb => ?_) (fun h => False.elim (by have h : y1.toInt < (F 67 3).toInt := h; omega))
    refine w_n 1 (pc1 := 38) (ls1 := [some (.ref 67), some (.int y1)]) (st1 := [.int (-2)]) (hp1 := (hz F A L)) rfl ?_
    subst T
    exact w_ri rfl (cvQ rfl rfl rfl K)
  | succ m ih =>
    intro B D F A L y1 hm K
    generalize hT : (km_best_2 (F 67 3) (A 68) (m + 1) y1) = T at K
    have hE : T = (if (km_beatsAll (F 67 3) (A 68) y1 ((km_allMeasures (F 67 3)) &&& (((1 : Int32) <<< (y1 &&& 31)) ^^^ (-1)))) = 0 then (km_best_2 (F 67 3) (A 68) m (y1 + 1)) else y1) := hT.symm
    clear hT
    refine w_n 3 (pc1 := 7) (ls1 := [some (.ref 67), some (.int y1)]) (st1 := [.int (F 67 3), .int y1]) (hp1 := (hz F A L)) rfl ?_
    refine w_ge (p3 := 10) rfl rfl (fun h => False.elim (by have h : (F 67 3).toInt ≤ y1.toInt := h; omega)) (fun hb => ?_)
    refine w_n 3 (pc1 := 13) (ls1 := [some (.ref 67), some (.int y1)]) (st1 := [.ref 67, .int y1, .ref 67]) (hp1 := (hz F A L)) rfl ?_
    refine w_c rfl rfl (t_km_allMeasures ?_)
    show wl_E f _ _ mm211.2.2.2.2.2.2.2.2 16 [some (.ref 67), some (.int y1)] [.int (km_allMeasures (F 67 3)), .int y1, .ref 67] (hz F A L) _
    generalize hG144 : (km_allMeasures (F 67 3)) = G144 at hE ⊢
    refine w_n 6 (pc1 := 22) (ls1 := [some (.ref 67), some (.int y1)]) (st1 := [.int (G144 &&& (((1 : Int32) <<< (y1 &&& 31)) ^^^ (-1))), .int y1, .ref 67]) (hp1 := (hz F A L)) rfl ?_
    refine w_c rfl rfl (t_km_beatsAll ?_)
    show wl_E f _ _ mm211.2.2.2.2.2.2.2.2 25 [some (.ref 67), some (.int y1)] [.int (km_beatsAll (F 67 3) (A 68) y1 (G144 &&& (((1 : Int32) <<< (y1 &&& 31)) ^^^ (-1))))] (hz F A L) _
    generalize hG149 : (km_beatsAll (F 67 3) (A 68) y1 (G144 &&& (((1 : Int32) <<< (y1 &&& 31)) ^^^ (-1)))) = G149 at hE ⊢
    refine w_zeq (p3 := 28) rfl rfl (fun h => ?_) (fun h => ?_)
    · have h1 : G149 = 0 := h
      rw [if_pos h1] at hE
      refine w_n 2 (pc1 := 2) (ls1 := [some (.ref 67), some (.int (y1 + 1))]) (st1 := []) (hp1 := (hz F A L)) rfl ?_
      subst T
      have hb2 := i_up (B := (F 67 3)) hb
      have hb3 : y1.toInt < (F 67 3).toInt := hb
      exact ih (show m = ((F 67 3).toInt - (y1 + 1).toInt).toNat by rw [hb2]; omega) (cvQ rfl rfl rfl K)
    · have h1 : ¬ G149 = 0 := h
      rw [if_neg h1] at hE
      refine w_n 1 (pc1 := 29) (ls1 := [some (.ref 67), some (.int y1)]) (st1 := [.int y1]) (hp1 := (hz F A L)) rfl ?_
      subst T
      exact w_ri rfl (cvQ rfl rfl rfl K)
noncomputable def km_best (f67_3 : Int32) (a68 : List Int32) : Int32 := (km_best_2 f67_3 a68 f67_3.toInt.toNat 0)
theorem t_km_best {f D : Nat} {F : Nat → Nat → Int32} {A : Nat → List Int32} {L : Nat → List Int64} {Q : Option Value → sm_H → Prop} (K : Q (some (.int (km_best (F 67 3) (A 68)))) (hz F A L)) : wl_M f D 211 [.ref 67] (hz F A L) Q := by
  generalize hT : (km_best (F 67 3) (A 68)) = T at K
  have hE : T = (km_best_2 (F 67 3) (A 68) (F 67 3).toInt.toNat 0) := hT.symm
  clear hT
  refine w_m (E := mm211) rfl ?_
  show wl_E f f (D - 1) mm211.2.2.2.2.2.2.2.2 0 [some (.ref 67), none] [] (hz F A L) Q
  refine w_n 2 (pc1 := 2) (ls1 := [some (.ref 67), some (.int 0)]) (st1 := []) (hp1 := (hz F A L)) rfl ?_
  subst T
  exact t_km_best_2 _ (show (F 67 3).toInt.toNat = ((F 67 3).toInt - (0 : Int32).toInt).toNat by have e0 : (0 : Int32).toInt = 0 := rfl; first | rfl | omega) (cvQ rfl rfl rfl K)
noncomputable def kji_bitCount (x0 : Int32) : Int32 := ((((((((x0 - (((x0.toUInt32 >>> ((1 : Int32).toUInt32 &&& Int32.toUInt32 31)).toInt32) &&& 1431655765)) &&& 858993459) + ((((x0 - (((x0.toUInt32 >>> ((1 : Int32).toUInt32 &&& Int32.toUInt32 31)).toInt32) &&& 1431655765)).toUInt32 >>> ((2 : Int32).toUInt32 &&& Int32.toUInt32 31)).toInt32) &&& 858993459)) + (((((x0 - (((x0.toUInt32 >>> ((1 : Int32).toUInt32 &&& Int32.toUInt32 31)).toInt32) &&& 1431655765)) &&& 858993459) + ((((x0 - (((x0.toUInt32 >>> ((1 : Int32).toUInt32 &&& Int32.toUInt32 31)).toInt32) &&& 1431655765)).toUInt32 >>> ((2 : Int32).toUInt32 &&& Int32.toUInt32 31)).toInt32) &&& 858993459)).toUInt32 >>> ((4 : Int32).toUInt32 &&& Int32.toUInt32 31)).toInt32)) &&& 252645135) + (((((((x0 - (((x0.toUInt32 >>> ((1 : Int32).toUInt32 &&& Int32.toUInt32 31)).toInt32) &&& 1431655765)) &&& 858993459) + ((((x0 - (((x0.toUInt32 >>> ((1 : Int32).toUInt32 &&& Int32.toUInt32 31)).toInt32) &&& 1431655765)).toUInt32 >>> ((2 : Int32).toUInt32 &&& Int32.toUInt32 31)).toInt32) &&& 858993459)) + (((((x0 - (((x0.toUInt32 >>> ((1 : Int32).toUInt32 &&& Int32.toUInt32 31)).toInt32) &&& 1431655765)) &&& 858993459) + ((((x0 - (((x0.toUInt32 >>> ((1 : Int32).toUInt32 &&& Int32.toUInt32 31)).toInt32) &&& 1431655765)).toUInt32 >>> ((2 : Int32).toUInt32 &&& Int32.toUInt32 31)).toInt32) &&& 858993459)).toUInt32 >>> ((4 : Int32).toUInt32 &&& Int32.toUInt32 31)).toInt32)) &&& 252645135).toUInt32 >>> ((8 : Int32).toUInt32 &&& Int32.toUInt32 31)).toInt32)) + ((((((((x0 - (((x0.toUInt32 >>> ((1 : Int32).toUInt32 &&& Int32.toUInt32 31)).toInt32) &&& 1431655765)) &&& 858993459) + ((((x0 - (((x0.toUInt32 >>> ((1 : Int32).toUInt32 &&& Int32.toUInt32 31)).toInt32) &&& 1431655765)).toUInt32 >>> ((2 : Int32).toUInt32 &&& Int32.toUInt32 31)).toInt32) &&& 858993459)) + (((((x0 - (((x0.toUInt32 >>> ((1 : Int32).toUInt32 &&& Int32.toUInt32 31)).toInt32) &&& 1431655765)) &&& 858993459) + ((((x0 - (((x0.toUInt32 >>> ((1 : Int32).toUInt32 &&& Int32.toUInt32 31)).toInt32) &&& 1431655765)).toUInt32 >>> ((2 : Int32).toUInt32 &&& Int32.toUInt32 31)).toInt32) &&& 858993459)).toUInt32 >>> ((4 : Int32).toUInt32 &&& Int32.toUInt32 31)).toInt32)) &&& 252645135) + (((((((x0 - (((x0.toUInt32 >>> ((1 : Int32).toUInt32 &&& Int32.toUInt32 31)).toInt32) &&& 1431655765)) &&& 858993459) + ((((x0 - (((x0.toUInt32 >>> ((1 : Int32).toUInt32 &&& Int32.toUInt32 31)).toInt32) &&& 1431655765)).toUInt32 >>> ((2 : Int32).toUInt32 &&& Int32.toUInt32 31)).toInt32) &&& 858993459)) + (((((x0 - (((x0.toUInt32 >>> ((1 : Int32).toUInt32 &&& Int32.toUInt32 31)).toInt32) &&& 1431655765)) &&& 858993459) + ((((x0 - (((x0.toUInt32 >>> ((1 : Int32).toUInt32 &&& Int32.toUInt32 31)).toInt32) &&& 1431655765)).toUInt32 >>> ((2 : Int32).toUInt32 &&& Int32.toUInt32 31)).toInt32) &&& 858993459)).toUInt32 >>> ((4 : Int32).toUInt32 &&& Int32.toUInt32 31)).toInt32)) &&& 252645135).toUInt32 >>> ((8 : Int32).toUInt32 &&& Int32.toUInt32 31)).toInt32)).toUInt32 >>> ((16 : Int32).toUInt32 &&& Int32.toUInt32 31)).toInt32)) &&& 63)
theorem t_kji_bitCount {f D : Nat} {F : Nat → Nat → Int32} {A : Nat → List Int32} {L : Nat → List Int64} {Q : Option Value → sm_H → Prop} {x0 : Int32} (K : Q (some (.int (kji_bitCount x0))) (hz F A L)) : wl_M f D 72 [.int x0] (hz F A L) Q := by
  generalize hT : (kji_bitCount x0) = T at K
  have hE : T = ((((((((x0 - (((x0.toUInt32 >>> ((1 : Int32).toUInt32 &&& Int32.toUInt32 31)).toInt32) &&& 1431655765)) &&& 858993459) + ((((x0 - (((x0.toUInt32 >>> ((1 : Int32).toUInt32 &&& Int32.toUInt32 31)).toInt32) &&& 1431655765)).toUInt32 >>> ((2 : Int32).toUInt32 &&& Int32.toUInt32 31)).toInt32) &&& 858993459)) + (((((x0 - (((x0.toUInt32 >>> ((1 : Int32).toUInt32 &&& Int32.toUInt32 31)).toInt32) &&& 1431655765)) &&& 858993459) + ((((x0 - (((x0.toUInt32 >>> ((1 : Int32).toUInt32 &&& Int32.toUInt32 31)).toInt32) &&& 1431655765)).toUInt32 >>> ((2 : Int32).toUInt32 &&& Int32.toUInt32 31)).toInt32) &&& 858993459)).toUInt32 >>> ((4 : Int32).toUInt32 &&& Int32.toUInt32 31)).toInt32)) &&& 252645135) + (((((((x0 - (((x0.toUInt32 >>> ((1 : Int32).toUInt32 &&& Int32.toUInt32 31)).toInt32) &&& 1431655765)) &&& 858993459) + ((((x0 - (((x0.toUInt32 >>> ((1 : Int32).toUInt32 &&& Int32.toUInt32 31)).toInt32) &&& 1431655765)).toUInt32 >>> ((2 : Int32).toUInt32 &&& Int32.toUInt32 31)).toInt32) &&& 858993459)) + (((((x0 - (((x0.toUInt32 >>> ((1 : Int32).toUInt32 &&& Int32.toUInt32 31)).toInt32) &&& 1431655765)) &&& 858993459) + ((((x0 - (((x0.toUInt32 >>> ((1 : Int32).toUInt32 &&& Int32.toUInt32 31)).toInt32) &&& 1431655765)).toUInt32 >>> ((2 : Int32).toUInt32 &&& Int32.toUInt32 31)).toInt32) &&& 858993459)).toUInt32 >>> ((4 : Int32).toUInt32 &&& Int32.toUInt32 31)).toInt32)) &&& 252645135).toUInt32 >>> ((8 : Int32).toUInt32 &&& Int32.toUInt32 31)).toInt32)) + ((((((((x0 - (((x0.toUInt32 >>> ((1 : Int32).toUInt32 &&& Int32.toUInt32 31)).toInt32) &&& 1431655765)) &&& 858993459) + ((((x0 - (((x0.toUInt32 >>> ((1 : Int32).toUInt32 &&& Int32.toUInt32 31)).toInt32) &&& 1431655765)).toUInt32 >>> ((2 : Int32).toUInt32 &&& Int32.toUInt32 31)).toInt32) &&& 858993459)) + (((((x0 - (((x0.toUInt32 >>> ((1 : Int32).toUInt32 &&& Int32.toUInt32 31)).toInt32) &&& 1431655765)) &&& 858993459) + ((((x0 - (((x0.toUInt32 >>> ((1 : Int32).toUInt32 &&& Int32.toUInt32 31)).toInt32) &&& 1431655765)).toUInt32 >>> ((2 : Int32).toUInt32 &&& Int32.toUInt32 31)).toInt32) &&& 858993459)).toUInt32 >>> ((4 : Int32).toUInt32 &&& Int32.toUInt32 31)).toInt32)) &&& 252645135) + (((((((x0 - (((x0.toUInt32 >>> ((1 : Int32).toUInt32 &&& Int32.toUInt32 31)).toInt32) &&& 1431655765)) &&& 858993459) + ((((x0 - (((x0.toUInt32 >>> ((1 : Int32).toUInt32 &&& Int32.toUInt32 31)).toInt32) &&& 1431655765)).toUInt32 >>> ((2 : Int32).toUInt32 &&& Int32.toUInt32 31)).toInt32) &&& 858993459)) + (((((x0 - (((x0.toUInt32 >>> ((1 : Int32).toUInt32 &&& Int32.toUInt32 31)).toInt32) &&& 1431655765)) &&& 858993459) + ((((x0 - (((x0.toUInt32 >>> ((1 : Int32).toUInt32 &&& Int32.toUInt32 31)).toInt32) &&& 1431655765)).toUInt32 >>> ((2 : Int32).toUInt32 &&& Int32.toUInt32 31)).toInt32) &&& 858993459)).toUInt32 >>> ((4 : Int32).toUInt32 &&& Int32.toUInt32 31)).toInt32)) &&& 252645135).toUInt32 >>> ((8 : Int32).toUInt32 &&& Int32.toUInt32 31)).toInt32)).toUInt32 >>> ((16 : Int32).toUInt32 &&& Int32.toUInt32 31)).toInt32)) &&& 63) := hT.symm
  clear hT
  refine w_m (E := mm72) rfl ?_
  show wl_E f f (D - 1) mm72.2.2.2.2.2.2.2.2 0 [some (.int x0)] [] (hz F A L) Q
  refine w_n 41 (pc1 := 52) (ls1 := [some (.int (((((((x0 - (((x0.toUInt32 >>> ((1 : Int32).toUInt32 &&& Int32.toUInt32 31)).toInt32) &&& 1431655765)) &&& 858993459) + ((((x0 - (((x0.toUInt32 >>> ((1 : Int32).toUInt32 &&& Int32.toUInt32 31)).toInt32) &&& 1431655765)).toUInt32 >>> ((2 : Int32).toUInt32 &&& Int32.toUInt32 31)).toInt32) &&& 858993459)) + (((((x0 - (((x0.toUInt32 >>> ((1 : Int32).toUInt32 &&& Int32.toUInt32 31)).toInt32) &&& 1431655765)) &&& 858993459) + ((((x0 - (((x0.toUInt32 >>> ((1 : Int32).toUInt32 &&& Int32.toUInt32 31)).toInt32) &&& 1431655765)).toUInt32 >>> ((2 : Int32).toUInt32 &&& Int32.toUInt32 31)).toInt32) &&& 858993459)).toUInt32 >>> ((4 : Int32).toUInt32 &&& Int32.toUInt32 31)).toInt32)) &&& 252645135) + (((((((x0 - (((x0.toUInt32 >>> ((1 : Int32).toUInt32 &&& Int32.toUInt32 31)).toInt32) &&& 1431655765)) &&& 858993459) + ((((x0 - (((x0.toUInt32 >>> ((1 : Int32).toUInt32 &&& Int32.toUInt32 31)).toInt32) &&& 1431655765)).toUInt32 >>> ((2 : Int32).toUInt32 &&& Int32.toUInt32 31)).toInt32) &&& 858993459)) + (((((x0 - (((x0.toUInt32 >>> ((1 : Int32).toUInt32 &&& Int32.toUInt32 31)).toInt32) &&& 1431655765)) &&& 858993459) + ((((x0 - (((x0.toUInt32 >>> ((1 : Int32).toUInt32 &&& Int32.toUInt32 31)).toInt32) &&& 1431655765)).toUInt32 >>> ((2 : Int32).toUInt32 &&& Int32.toUInt32 31)).toInt32) &&& 858993459)).toUInt32 >>> ((4 : Int32).toUInt32 &&& Int32.toUInt32 31)).toInt32)) &&& 252645135).toUInt32 >>> ((8 : Int32).toUInt32 &&& Int32.toUInt32 31)).toInt32)) + ((((((((x0 - (((x0.toUInt32 >>> ((1 : Int32).toUInt32 &&& Int32.toUInt32 31)).toInt32) &&& 1431655765)) &&& 858993459) + ((((x0 - (((x0.toUInt32 >>> ((1 : Int32).toUInt32 &&& Int32.toUInt32 31)).toInt32) &&& 1431655765)).toUInt32 >>> ((2 : Int32).toUInt32 &&& Int32.toUInt32 31)).toInt32) &&& 858993459)) + (((((x0 - (((x0.toUInt32 >>> ((1 : Int32).toUInt32 &&& Int32.toUInt32 31)).toInt32) &&& 1431655765)) &&& 858993459) + ((((x0 - (((x0.toUInt32 >>> ((1 : Int32).toUInt32 &&& Int32.toUInt32 31)).toInt32) &&& 1431655765)).toUInt32 >>> ((2 : Int32).toUInt32 &&& Int32.toUInt32 31)).toInt32) &&& 858993459)).toUInt32 >>> ((4 : Int32).toUInt32 &&& Int32.toUInt32 31)).toInt32)) &&& 252645135) + (((((((x0 - (((x0.toUInt32 >>> ((1 : Int32).toUInt32 &&& Int32.toUInt32 31)).toInt32) &&& 1431655765)) &&& 858993459) + ((((x0 - (((x0.toUInt32 >>> ((1 : Int32).toUInt32 &&& Int32.toUInt32 31)).toInt32) &&& 1431655765)).toUInt32 >>> ((2 : Int32).toUInt32 &&& Int32.toUInt32 31)).toInt32) &&& 858993459)) + (((((x0 - (((x0.toUInt32 >>> ((1 : Int32).toUInt32 &&& Int32.toUInt32 31)).toInt32) &&& 1431655765)) &&& 858993459) + ((((x0 - (((x0.toUInt32 >>> ((1 : Int32).toUInt32 &&& Int32.toUInt32 31)).toInt32) &&& 1431655765)).toUInt32 >>> ((2 : Int32).toUInt32 &&& Int32.toUInt32 31)).toInt32) &&& 858993459)).toUInt32 >>> ((4 : Int32).toUInt32 &&& Int32.toUInt32 31)).toInt32)) &&& 252645135).toUInt32 >>> ((8 : Int32).toUInt32 &&& Int32.toUInt32 31)).toInt32)).toUInt32 >>> ((16 : Int32).toUInt32 &&& Int32.toUInt32 31)).toInt32)))]) (st1 := [.int ((((((((x0 - (((x0.toUInt32 >>> ((1 : Int32).toUInt32 &&& Int32.toUInt32 31)).toInt32) &&& 1431655765)) &&& 858993459) + ((((x0 - (((x0.toUInt32 >>> ((1 : Int32).toUInt32 &&& Int32.toUInt32 31)).toInt32) &&& 1431655765)).toUInt32 >>> ((2 : Int32).toUInt32 &&& Int32.toUInt32 31)).toInt32) &&& 858993459)) + (((((x0 - (((x0.toUInt32 >>> ((1 : Int32).toUInt32 &&& Int32.toUInt32 31)).toInt32) &&& 1431655765)) &&& 858993459) + ((((x0 - (((x0.toUInt32 >>> ((1 : Int32).toUInt32 &&& Int32.toUInt32 31)).toInt32) &&& 1431655765)).toUInt32 >>> ((2 : Int32).toUInt32 &&& Int32.toUInt32 31)).toInt32) &&& 858993459)).toUInt32 >>> ((4 : Int32).toUInt32 &&& Int32.toUInt32 31)).toInt32)) &&& 252645135) + (((((((x0 - (((x0.toUInt32 >>> ((1 : Int32).toUInt32 &&& Int32.toUInt32 31)).toInt32) &&& 1431655765)) &&& 858993459) + ((((x0 - (((x0.toUInt32 >>> ((1 : Int32).toUInt32 &&& Int32.toUInt32 31)).toInt32) &&& 1431655765)).toUInt32 >>> ((2 : Int32).toUInt32 &&& Int32.toUInt32 31)).toInt32) &&& 858993459)) + (((((x0 - (((x0.toUInt32 >>> ((1 : Int32).toUInt32 &&& Int32.toUInt32 31)).toInt32) &&& 1431655765)) &&& 858993459) + ((((x0 - (((x0.toUInt32 >>> ((1 : Int32).toUInt32 &&& Int32.toUInt32 31)).toInt32) &&& 1431655765)).toUInt32 >>> ((2 : Int32).toUInt32 &&& Int32.toUInt32 31)).toInt32) &&& 858993459)).toUInt32 >>> ((4 : Int32).toUInt32 &&& Int32.toUInt32 31)).toInt32)) &&& 252645135).toUInt32 >>> ((8 : Int32).toUInt32 &&& Int32.toUInt32 31)).toInt32)) + ((((((((x0 - (((x0.toUInt32 >>> ((1 : Int32).toUInt32 &&& Int32.toUInt32 31)).toInt32) &&& 1431655765)) &&& 858993459) + ((((x0 - (((x0.toUInt32 >>> ((1 : Int32).toUInt32 &&& Int32.toUInt32 31)).toInt32) &&& 1431655765)).toUInt32 >>> ((2 : Int32).toUInt32 &&& Int32.toUInt32 31)).toInt32) &&& 858993459)) + (((((x0 - (((x0.toUInt32 >>> ((1 : Int32).toUInt32 &&& Int32.toUInt32 31)).toInt32) &&& 1431655765)) &&& 858993459) + ((((x0 - (((x0.toUInt32 >>> ((1 : Int32).toUInt32 &&& Int32.toUInt32 31)).toInt32) &&& 1431655765)).toUInt32 >>> ((2 : Int32).toUInt32 &&& Int32.toUInt32 31)).toInt32) &&& 858993459)).toUInt32 >>> ((4 : Int32).toUInt32 &&& Int32.toUInt32 31)).toInt32)) &&& 252645135) + (((((((x0 - (((x0.toUInt32 >>> ((1 : Int32).toUInt32 &&& Int32.toUInt32 31)).toInt32) &&& 1431655765)) &&& 858993459) + ((((x0 - (((x0.toUInt32 >>> ((1 : Int32).toUInt32 &&& Int32.toUInt32 31)).toInt32) &&& 1431655765)).toUInt32 >>> ((2 : Int32).toUInt32 &&& Int32.toUInt32 31)).toInt32) &&& 858993459)) + (((((x0 - (((x0.toUInt32 >>> ((1 : Int32).toUInt32 &&& Int32.toUInt32 31)).toInt32) &&& 1431655765)) &&& 858993459) + ((((x0 - (((x0.toUInt32 >>> ((1 : Int32).toUInt32 &&& Int32.toUInt32 31)).toInt32) &&& 1431655765)).toUInt32 >>> ((2 : Int32).toUInt32 &&& Int32.toUInt32 31)).toInt32) &&& 858993459)).toUInt32 >>> ((4 : Int32).toUInt32 &&& Int32.toUInt32 31)).toInt32)) &&& 252645135).toUInt32 >>> ((8 : Int32).toUInt32 &&& Int32.toUInt32 31)).toInt32)).toUInt32 >>> ((16 : Int32).toUInt32 &&& Int32.toUInt32 31)).toInt32)) &&& 63)]) (hp1 := (hz F A L)) rfl ?_
  subst T
  exact w_ri rfl (cvQ rfl rfl rfl K)
noncomputable def kv_beatsTheRest_14 (a33 : List Int32) (x1 : Int32) (x2 : Int32) : Nat → Int32 → Int32
  | 0, _ => 1
  | m + 1, y3 => (if ((x1 >>> (y3 &&& 31)) &&& 1) = 0 then (kv_beatsTheRest_14 a33 x1 x2 m (y3 + 1)) else (if (x2 &&& ((a33.getD y3.toInt.toNat 0) ^^^ (-1))) = 0 then (kv_beatsTheRest_14 a33 x1 x2 m (y3 + 1)) else 0))
theorem t_kv_beatsTheRest_14 {f : Nat} {Q : Option Value → sm_H → Prop} : ∀ (m : Nat) {B D : Nat} {F : Nat → Nat → Int32} {A : Nat → List Int32} {L : Nat → List Int64} {x1 : Int32} {x2 : Int32} {y3 : Int32}, m = ((F 3 0).toInt - y3.toInt).toNat → (Q (some (.int (kv_beatsTheRest_14 (A 33) x1 x2 m y3))) (hz F A L)) → wl_E f B D mm89.2.2.2.2.2.2.2.2 14 [some (.ref 30), some (.int x1), some (.int x2), some (.int y3)] [] (hz F A L) Q := by
  intro m
  induction m with
  | zero =>
    intro B D F A L x1 x2 y3 hm K
    generalize hT : (kv_beatsTheRest_14 (A 33) x1 x2 0 y3) = T at K
    have hE : T = 1 := hT.symm
    clear hT
    refine w_n 4 (pc1 := 22) (ls1 := [some (.ref 30), some (.int x1), some (.int x2), some (.int y3)]) (st1 := [.int (F 3 0), .int y3]) (hp1 := (hz F A L)) rfl ?_
    refine w_ge (p3 := 25) rfl rfl (fun hb => ?_) (fun h => False.elim (by have h : y3.toInt < (F 3 0).toInt := h; omega))
    refine w_n 1 (pc1 := 55) (ls1 := [some (.ref 30), some (.int x1), some (.int x2), some (.int y3)]) (st1 := [.int 1]) (hp1 := (hz F A L)) rfl ?_
    subst T
    exact w_ri rfl (cvQ rfl rfl rfl K)
  | succ m ih =>
    intro B D F A L x1 x2 y3 hm K
    generalize hT : (kv_beatsTheRest_14 (A 33) x1 x2 (m + 1) y3) = T at K
    have hE : T = (if ((x1 >>> (y3 &&& 31)) &&& 1) = 0 then (kv_beatsTheRest_14 (A 33) x1 x2 m (y3 + 1)) else (if (x2 &&& (((A 33).getD y3.toInt.toNat 0) ^^^ (-1))) = 0 then (kv_beatsTheRest_14 (A 33) x1 x2 m (y3 + 1)) else 0)) := hT.symm
    clear hT
    refine w_n 4 (pc1 := 22) (ls1 := [some (.ref 30), some (.int x1), some (.int x2), some (.int y3)]) (st1 := [.int (F 3 0), .int y3]) (hp1 := (hz F A L)) rfl ?_
    refine w_ge (p3 := 25) rfl rfl (fun h => False.elim (by have h : (F 3 0).toInt ≤ y3.toInt := h; omega)) (fun hb => ?_)
    refine w_n 5 (pc1 := 30) (ls1 := [some (.ref 30), some (.int x1), some (.int x2), some (.int y3)]) (st1 := [.int ((x1 >>> (y3 &&& 31)) &&& 1)]) (hp1 := (hz F A L)) rfl ?_
    refine w_zeq (p3 := 33) rfl rfl (fun h => ?_) (fun h => ?_)
    · have h1 : ((x1 >>> (y3 &&& 31)) &&& 1) = 0 := h
      rw [if_pos h1] at hE
      refine w_n 2 (pc1 := 14) (ls1 := [some (.ref 30), some (.int x1), some (.int x2), some (.int (y3 + 1))]) (st1 := []) (hp1 := (hz F A L)) rfl ?_
      subst T
      have hb2 := i_up (B := (F 3 0)) hb
      have hb3 : y3.toInt < (F 3 0).toInt := hb
      exact ih (show m = ((F 3 0).toInt - (y3 + 1).toInt).toNat by rw [hb2]; omega) (cvQ rfl rfl rfl K)
    · have h1 : ¬ ((x1 >>> (y3 &&& 31)) &&& 1) = 0 := h
      rw [if_neg h1] at hE
      refine w_n 4 (pc1 := 39) (ls1 := [some (.ref 30), some (.int x1), some (.int x2), some (.int y3)]) (st1 := [.int y3, .ref 33, .int x2]) (hp1 := (hz F A L)) rfl ?_
      refine w_al (k := 33) (l := (A 33)) rfl rfl rfl (fun ab => ?_)
      refine w_n 3 (pc1 := 43) (ls1 := [some (.ref 30), some (.int x1), some (.int x2), some (.int y3)]) (st1 := [.int (x2 &&& (((A 33).getD y3.toInt.toNat 0) ^^^ (-1)))]) (hp1 := (hz F A L)) rfl ?_
      refine w_zeq (p3 := 46) rfl rfl (fun h => ?_) (fun h => ?_)
      · have h2 : (x2 &&& (((A 33).getD y3.toInt.toNat 0) ^^^ (-1))) = 0 := h
        rw [if_pos h2] at hE
        refine w_n 2 (pc1 := 14) (ls1 := [some (.ref 30), some (.int x1), some (.int x2), some (.int (y3 + 1))]) (st1 := []) (hp1 := (hz F A L)) rfl ?_
        subst T
        have hb2 := i_up (B := (F 3 0)) hb
        have hb3 : y3.toInt < (F 3 0).toInt := hb
        exact ih (show m = ((F 3 0).toInt - (y3 + 1).toInt).toNat by rw [hb2]; omega) (cvQ rfl rfl rfl K)
      · have h2 : ¬ (x2 &&& (((A 33).getD y3.toInt.toNat 0) ^^^ (-1))) = 0 := h
        rw [if_neg h2] at hE
        refine w_n 1 (pc1 := 47) (ls1 := [some (.ref 30), some (.int x1), some (.int x2), some (.int y3)]) (st1 := [.int 0]) (hp1 := (hz F A L)) rfl ?_
        subst T
        exact w_ri rfl (cvQ rfl rfl rfl K)
noncomputable def kv_beatsTheRest (f3_0 : Int32) (a33 : List Int32) (x1 : Int32) : Int32 := (kv_beatsTheRest_14 a33 x1 ((kt_allMeasures f3_0) &&& (x1 ^^^ (-1))) f3_0.toInt.toNat 0)
theorem t_kv_beatsTheRest {f D : Nat} {F : Nat → Nat → Int32} {A : Nat → List Int32} {L : Nat → List Int64} {Q : Option Value → sm_H → Prop} {x1 : Int32} (K : Q (some (.int (kv_beatsTheRest (F 3 0) (A 33) x1))) (hz F A L)) : wl_M f D 89 [.ref 30, .int x1] (hz F A L) Q := by
  generalize hT : (kv_beatsTheRest (F 3 0) (A 33) x1) = T at K
  have hE : T = (kv_beatsTheRest_14 (A 33) x1 ((kt_allMeasures (F 3 0)) &&& (x1 ^^^ (-1))) (F 3 0).toInt.toNat 0) := hT.symm
  clear hT
  refine w_m (E := mm89) rfl ?_
  show wl_E f f (D - 1) mm89.2.2.2.2.2.2.2.2 0 [some (.ref 30), some (.int x1), none, none] [] (hz F A L) Q
  refine w_n 2 (pc1 := 4) (ls1 := [some (.ref 30), some (.int x1), none, none]) (st1 := [.ref 3]) (hp1 := (hz F A L)) rfl ?_
  refine w_c rfl rfl (t_kt_allMeasures ?_)
  show wl_E f _ _ mm89.2.2.2.2.2.2.2.2 7 [some (.ref 30), some (.int x1), none, none] [.int (kt_allMeasures (F 3 0))] (hz F A L) _
  generalize hG154 : (kt_allMeasures (F 3 0)) = G154 at hE ⊢
  refine w_n 7 (pc1 := 14) (ls1 := [some (.ref 30), some (.int x1), some (.int (G154 &&& (x1 ^^^ (-1)))), some (.int 0)]) (st1 := []) (hp1 := (hz F A L)) rfl ?_
  subst T
  exact t_kv_beatsTheRest_14 _ (show (F 3 0).toInt.toNat = ((F 3 0).toInt - (0 : Int32).toInt).toNat by have e0 : (0 : Int32).toInt = 0 := rfl; first | rfl | omega) (cvQ rfl rfl rfl K)
noncomputable def kv_leastBeatingSet_10 (f3_0 : Int32) (a33 : List Int32)  : Nat → Int32 → Int32 → Int32
  | 0, y1, _ => y1
  | m + 1, y1, y2 => (if (kji_bitCount y2).toInt < (kji_bitCount y1).toInt then (if (kv_beatsTheRest f3_0 a33 y2) = 0 then (kv_leastBeatingSet_10 f3_0 a33 m y1 (y2 + 1)) else (kv_leastBeatingSet_10 f3_0 a33 m y2 (y2 + 1))) else (kv_leastBeatingSet_10 f3_0 a33 m y1 (y2 + 1)))
theorem t_kv_leastBeatingSet_10 {f : Nat} {Q : Option Value → sm_H → Prop} : ∀ (m : Nat) {B D : Nat} {F : Nat → Nat → Int32} {A : Nat → List Int32} {L : Nat → List Int64} {y1 : Int32} {y2 : Int32}, m = ((kt_allMeasures (F 3 0)).toInt + 1 - y2.toInt).toNat → (_ : (kt_allMeasures (F 3 0)).toInt < 2147483647) → (∀ q2 : Int32, wl_E f B D mm88.2.2.2.2.2.2.2.2 48 [some (.ref 30), some (.int (kv_leastBeatingSet_10 (F 3 0) (A 33) m y1 y2)), some (.int q2)] [] (hz F A L) Q) → wl_E f B D mm88.2.2.2.2.2.2.2.2 10 [some (.ref 30), some (.int y1), some (.int y2)] [] (hz F A L) Q := by
  intro m
  induction m with
  | zero =>
    intro B D F A L y1 y2 hm hh0 K
    generalize hT : (kv_leastBeatingSet_10 (F 3 0) (A 33) 0 y1 y2) = T at K
    have hE : T = y1 := hT.symm
    clear hT
    refine w_n 3 (pc1 := 15) (ls1 := [some (.ref 30), some (.int y1), some (.int y2)]) (st1 := [.ref 3, .int y2]) (hp1 := (hz F A L)) rfl ?_
    refine w_c rfl rfl (t_kt_allMeasures ?_)
    show wl_E f _ _ mm88.2.2.2.2.2.2.2.2 18 [some (.ref 30), some (.int y1), some (.int y2)] [.int (kt_allMeasures (F 3 0)), .int y2] (hz F A L) _
    refine w_gt (p3 := 21) rfl rfl (fun hb => ?_) (fun h => False.elim (by have h : y2.toInt ≤ (kt_allMeasures (F 3 0)).toInt := h; omega))
    subst T
    exact cvE rfl rfl rfl (K _)
  | succ m ih =>
    intro B D F A L y1 y2 hm hh0 K
    generalize hT : (kv_leastBeatingSet_10 (F 3 0) (A 33) (m + 1) y1 y2) = T at K
    have hE : T = (if (kji_bitCount y2).toInt < (kji_bitCount y1).toInt then (if (kv_beatsTheRest (F 3 0) (A 33) y2) = 0 then (kv_leastBeatingSet_10 (F 3 0) (A 33) m y1 (y2 + 1)) else (kv_leastBeatingSet_10 (F 3 0) (A 33) m y2 (y2 + 1))) else (kv_leastBeatingSet_10 (F 3 0) (A 33) m y1 (y2 + 1))) := hT.symm
    clear hT
    refine w_n 3 (pc1 := 15) (ls1 := [some (.ref 30), some (.int y1), some (.int y2)]) (st1 := [.ref 3, .int y2]) (hp1 := (hz F A L)) rfl ?_
    refine w_c rfl rfl (t_kt_allMeasures ?_)
    show wl_E f _ _ mm88.2.2.2.2.2.2.2.2 18 [some (.ref 30), some (.int y1), some (.int y2)] [.int (kt_allMeasures (F 3 0)), .int y2] (hz F A L) _
    refine w_gt (p3 := 21) rfl rfl (fun h => False.elim (by have h : (kt_allMeasures (F 3 0)).toInt < y2.toInt := h; omega)) (fun hb => ?_)
    refine w_n 1 (pc1 := 22) (ls1 := [some (.ref 30), some (.int y1), some (.int y2)]) (st1 := [.int y2]) (hp1 := (hz F A L)) rfl ?_
    refine w_c rfl rfl (t_kji_bitCount ?_)
    show wl_E f _ _ mm88.2.2.2.2.2.2.2.2 25 [some (.ref 30), some (.int y1), some (.int y2)] [.int (kji_bitCount y2)] (hz F A L) _
    generalize hG152 : (kji_bitCount y2) = G152 at hE ⊢
    refine w_n 1 (pc1 := 26) (ls1 := [some (.ref 30), some (.int y1), some (.int y2)]) (st1 := [.int y1, .int G152]) (hp1 := (hz F A L)) rfl ?_
    refine w_c rfl rfl (t_kji_bitCount ?_)
    show wl_E f _ _ mm88.2.2.2.2.2.2.2.2 29 [some (.ref 30), some (.int y1), some (.int y2)] [.int (kji_bitCount y1), .int G152] (hz F A L) _
    generalize hG153 : (kji_bitCount y1) = G153 at hE ⊢
    refine w_ge (p3 := 32) rfl rfl (fun h => ?_) (fun h => ?_)
    · have h1 : G153.toInt ≤ G152.toInt := h
      rw [if_neg (Int.not_lt.mpr h1)] at hE
      refine w_n 2 (pc1 := 10) (ls1 := [some (.ref 30), some (.int y1), some (.int (y2 + 1))]) (st1 := []) (hp1 := (hz F A L)) rfl ?_
      subst T
      have hb2 := i_up2 (B := (kt_allMeasures (F 3 0))) hb (by first | decide | exact hB | assumption)
      have hb3 : y2.toInt ≤ (kt_allMeasures (F 3 0)).toInt := hb
      exact ih (show m = ((kt_allMeasures (F 3 0)).toInt + 1 - (y2 + 1).toInt).toNat by rw [hb2]; omega) hh0 (fun q2 => cvE rfl rfl rfl (K q2))
    · have h1 : G152.toInt < G153.toInt := h
      rw [if_pos h1] at hE
      refine w_n 2 (pc1 := 34) (ls1 := [some (.ref 30), some (.int y1), some (.int y2)]) (st1 := [.int y2, .ref 30]) (hp1 := (hz F A L)) rfl ?_
      refine w_c rfl rfl (t_kv_beatsTheRest ?_)
      show wl_E f _ _ mm88.2.2.2.2.2.2.2.2 37 [some (.ref 30), some (.int y1), some (.int y2)] [.int (kv_beatsTheRest (F 3 0) (A 33) y2)] (hz F A L) _
      generalize hG155 : (kv_beatsTheRest (F 3 0) (A 33) y2) = G155 at hE ⊢
      refine w_zeq (p3 := 40) rfl rfl (fun h => ?_) (fun h => ?_)
      · have h2 : G155 = 0 := h
        rw [if_pos h2] at hE
        refine w_n 2 (pc1 := 10) (ls1 := [some (.ref 30), some (.int y1), some (.int (y2 + 1))]) (st1 := []) (hp1 := (hz F A L)) rfl ?_
        subst T
        have hb2 := i_up2 (B := (kt_allMeasures (F 3 0))) hb (by first | decide | exact hB | assumption)
        have hb3 : y2.toInt ≤ (kt_allMeasures (F 3 0)).toInt := hb
        exact ih (show m = ((kt_allMeasures (F 3 0)).toInt + 1 - (y2 + 1).toInt).toNat by rw [hb2]; omega) hh0 (fun q2 => cvE rfl rfl rfl (K q2))
      · have h2 : ¬ G155 = 0 := h
        rw [if_neg h2] at hE
        refine w_n 4 (pc1 := 10) (ls1 := [some (.ref 30), some (.int y2), some (.int (y2 + 1))]) (st1 := []) (hp1 := (hz F A L)) rfl ?_
        subst T
        have hb2 := i_up2 (B := (kt_allMeasures (F 3 0))) hb (by first | decide | exact hB | assumption)
        have hb3 : y2.toInt ≤ (kt_allMeasures (F 3 0)).toInt := hb
        exact ih (show m = ((kt_allMeasures (F 3 0)).toInt + 1 - (y2 + 1).toInt).toNat by rw [hb2]; omega) hh0 (fun q2 => cvE rfl rfl rfl (K q2))
noncomputable def kv_leastBeatingSet (f3_0 : Int32) (a33 : List Int32) : Int32 := (kv_leastBeatingSet_10 f3_0 a33 ((kt_allMeasures f3_0).toInt + 1 - 1).toNat (kt_allMeasures f3_0) 1)
theorem t_kv_leastBeatingSet {f D : Nat} {F : Nat → Nat → Int32} {A : Nat → List Int32} {L : Nat → List Int64} {Q : Option Value → sm_H → Prop} (hh0 : (kt_allMeasures (F 3 0)).toInt < 2147483647) (K : Q (some (.int (kv_leastBeatingSet (F 3 0) (A 33)))) (hz F A L)) : wl_M f D 88 [.ref 30] (hz F A L) Q := by
  generalize hT : (kv_leastBeatingSet (F 3 0) (A 33)) = T at K
  have hE : T = (kv_leastBeatingSet_10 (F 3 0) (A 33) ((kt_allMeasures (F 3 0)).toInt + 1 - 1).toNat (kt_allMeasures (F 3 0)) 1) := hT.symm
  clear hT
  refine w_m (E := mm88) rfl ?_
  show wl_E f f (D - 1) mm88.2.2.2.2.2.2.2.2 0 [some (.ref 30), none, none] [] (hz F A L) Q
  refine w_n 2 (pc1 := 4) (ls1 := [some (.ref 30), none, none]) (st1 := [.ref 3]) (hp1 := (hz F A L)) rfl ?_
  refine w_c rfl rfl (t_kt_allMeasures ?_)
  show wl_E f _ _ mm88.2.2.2.2.2.2.2.2 7 [some (.ref 30), none, none] [.int (kt_allMeasures (F 3 0))] (hz F A L) _
  generalize hG151 : (kt_allMeasures (F 3 0)) = G151 at hE ⊢
  refine w_n 3 (pc1 := 10) (ls1 := [some (.ref 30), some (.int G151), some (.int 1)]) (st1 := []) (hp1 := (hz F A L)) rfl ?_
  refine t_kv_leastBeatingSet_10 ((G151.toInt + 1 - 1).toNat) (show (G151.toInt + 1 - 1).toNat = ((kt_allMeasures (F 3 0)).toInt + 1 - (1 : Int32).toInt).toNat by rw [hG151]; have e0 : (1 : Int32).toInt = 1 := rfl; first | rfl | omega) hh0 ?_
  intro r1
  show wl_E f _ _ mm88.2.2.2.2.2.2.2.2 48 [some (.ref 30), some (.int (kv_leastBeatingSet_10 (F 3 0) (A 33) (G151.toInt + 1 - 1).toNat G151 1)), some (.int r1)] [] (hz F A L) _
  generalize hG156 : (kv_leastBeatingSet_10 (F 3 0) (A 33) (G151.toInt + 1 - 1).toNat G151 1) = G156 at hE ⊢
  refine w_n 1 (pc1 := 49) (ls1 := [some (.ref 30), some (.int G156), some (.int r1)]) (st1 := [.int G156]) (hp1 := (hz F A L)) rfl ?_
  subst T
  exact w_ri rfl (cvQ rfl rfl rfl K)
noncomputable def kc_set (f3_0 : Int32) (f3_1 : Int32) (a6 : List Int32) (a32 : List Int32) (a33 : List Int32) (l11 : List Int64) : Int32 × List Int32 × List Int32 := ((kv_leastBeatingSet f3_0 (kv_weighPairs f3_0 f3_1 a6 a32 a33 l11).2), (kv_weighPairs f3_0 f3_1 a6 a32 a33 l11).1, (kv_weighPairs f3_0 f3_1 a6 a32 a33 l11).2)
theorem t_kc_set {f D : Nat} {F : Nat → Nat → Int32} {A : Nat → List Int32} {L : Nat → List Int64} {Q : Option Value → sm_H → Prop} (hh0 : (kt_allMeasures (F 3 0)).toInt < 2147483647) (K : Q (some (.int ((kc_set (F 3 0) (F 3 1) (A 6) (A 32) (A 33) (L 11)).1))) (hz F (uA (uA A 32 ((kc_set (F 3 0) (F 3 1) (A 6) (A 32) (A 33) (L 11)).2.1)) 33 ((kc_set (F 3 0) (F 3 1) (A 6) (A 32) (A 33) (L 11)).2.2)) L)) : wl_M f D 87 [.ref 0] (hz F A L) Q := by
  generalize hT : (kc_set (F 3 0) (F 3 1) (A 6) (A 32) (A 33) (L 11)) = T at K
  have hE : T = ((kv_leastBeatingSet (F 3 0) (kv_weighPairs (F 3 0) (F 3 1) (A 6) (A 32) (A 33) (L 11)).2), (kv_weighPairs (F 3 0) (F 3 1) (A 6) (A 32) (A 33) (L 11)).1, (kv_weighPairs (F 3 0) (F 3 1) (A 6) (A 32) (A 33) (L 11)).2) := hT.symm
  clear hT
  refine w_m (E := mm87) rfl ?_
  show wl_E f f (D - 1) mm87.2.2.2.2.2.2.2.2 0 [some (.ref 0)] [] (hz F A L) Q
  refine w_n 2 (pc1 := 4) (ls1 := [some (.ref 0)]) (st1 := [.ref 30]) (hp1 := (hz F A L)) rfl ?_
  refine w_c rfl rfl (t_kv_weighPairs ?_)
  show wl_E f _ _ mm87.2.2.2.2.2.2.2.2 7 [some (.ref 0)] [] (hz F (uA (uA A 32 (kv_weighPairs (F 3 0) (F 3 1) (A 6) (A 32) (A 33) (L 11)).1) 33 (kv_weighPairs (F 3 0) (F 3 1) (A 6) (A 32) (A 33) (L 11)).2) L) _
  generalize hG150 : (kv_weighPairs (F 3 0) (F 3 1) (A 6) (A 32) (A 33) (L 11)) = G150 at hE ⊢
  refine w_n 2 (pc1 := 11) (ls1 := [some (.ref 0)]) (st1 := [.ref 30]) (hp1 := (hz F (uA (uA A 32 G150.1) 33 G150.2) L)) rfl ?_
  refine w_c rfl rfl (t_kv_leastBeatingSet hh0 ?_)
  show wl_E f _ _ mm87.2.2.2.2.2.2.2.2 14 [some (.ref 0)] [.int (kv_leastBeatingSet (F 3 0) G150.2)] (hz F (uA (uA A 32 G150.1) 33 G150.2) L) _
  generalize hG157 : (kv_leastBeatingSet (F 3 0) G150.2) = G157 at hE ⊢
  subst T
  exact w_ri rfl (cvQ rfl rfl rfl K)
noncomputable def km_bits_4  (x0 : Int32) : Nat → Int32 → Int32 → Int32
  | 0, y1, _ => y1
  | m + 1, y1, y2 => (km_bits_4 x0 m (y1 + ((x0 >>> (y2 &&& 31)) &&& 1)) (y2 + 1))
theorem t_km_bits_4 {f : Nat} {Q : Option Value → sm_H → Prop} : ∀ (m : Nat) {B D : Nat} {F : Nat → Nat → Int32} {A : Nat → List Int32} {L : Nat → List Int64} {x0 : Int32} {y1 : Int32} {y2 : Int32}, m = (12 - y2.toInt).toNat → (∀ q2 : Int32, wl_E f B D mm215.2.2.2.2.2.2.2.2 24 [some (.int x0), some (.int (km_bits_4 x0 m y1 y2)), some (.int q2)] [] (hz F A L) Q) → wl_E f B D mm215.2.2.2.2.2.2.2.2 4 [some (.int x0), some (.int y1), some (.int y2)] [] (hz F A L) Q := by
  intro m
  induction m with
  | zero =>
    intro B D F A L x0 y1 y2 hm K
    generalize hT : (km_bits_4 x0 0 y1 y2) = T at K
    have hE : T = y1 := hT.symm
    clear hT
    refine w_n 2 (pc1 := 7) (ls1 := [some (.int x0), some (.int y1), some (.int y2)]) (st1 := [.int 12, .int y2]) (hp1 := (hz F A L)) rfl ?_
    refine w_ge (p3 := 10) rfl rfl (fun hb => ?_) (fun h => False.elim (by have h : y2.toInt < 12 := h; omega))
    subst T
    exact cvE rfl rfl rfl (K _)
  | succ m ih =>
    intro B D F A L x0 y1 y2 hm K
    generalize hT : (km_bits_4 x0 (m + 1) y1 y2) = T at K
    have hE : T = (km_bits_4 x0 m (y1 + ((x0 >>> (y2 &&& 31)) &&& 1)) (y2 + 1)) := hT.symm
    clear hT
    refine w_n 2 (pc1 := 7) (ls1 := [some (.int x0), some (.int y1), some (.int y2)]) (st1 := [.int 12, .int y2]) (hp1 := (hz F A L)) rfl ?_
    refine w_ge (p3 := 10) rfl rfl (fun h => False.elim (by have h : 12 ≤ y2.toInt := h; omega)) (fun hb => ?_)
    refine w_n 10 (pc1 := 4) (ls1 := [some (.int x0), some (.int (y1 + ((x0 >>> (y2 &&& 31)) &&& 1))), some (.int (y2 + 1))]) (st1 := []) (hp1 := (hz F A L)) rfl ?_
    subst T
    have hb2 := i_up (B := (12 : Int32)) hb
    have hb3 : y2.toInt < 12 := hb
    exact ih (show m = (12 - (y2 + 1).toInt).toNat by rw [hb2]; omega) (fun q2 => cvE rfl rfl rfl (K q2))
noncomputable def km_bits (x0 : Int32) : Int32 := (km_bits_4 x0 12 0 0)
theorem t_km_bits {f D : Nat} {F : Nat → Nat → Int32} {A : Nat → List Int32} {L : Nat → List Int64} {Q : Option Value → sm_H → Prop} {x0 : Int32} (K : Q (some (.int (km_bits x0))) (hz F A L)) : wl_M f D 215 [.int x0] (hz F A L) Q := by
  generalize hT : (km_bits x0) = T at K
  have hE : T = (km_bits_4 x0 12 0 0) := hT.symm
  clear hT
  refine w_m (E := mm215) rfl ?_
  show wl_E f f (D - 1) mm215.2.2.2.2.2.2.2.2 0 [some (.int x0), none, none] [] (hz F A L) Q
  refine w_n 4 (pc1 := 4) (ls1 := [some (.int x0), some (.int 0), some (.int 0)]) (st1 := []) (hp1 := (hz F A L)) rfl ?_
  refine t_km_bits_4 12 (show (12 : Nat) = (12 - (0 : Int32).toInt).toNat by have e0 : (0 : Int32).toInt = 0 := rfl; first | rfl | omega) ?_
  intro r1
  show wl_E f _ _ mm215.2.2.2.2.2.2.2.2 24 [some (.int x0), some (.int (km_bits_4 x0 12 0 0)), some (.int r1)] [] (hz F A L) _
  generalize hG159 : (km_bits_4 x0 12 0 0) = G159 at hE ⊢
  refine w_n 1 (pc1 := 25) (ls1 := [some (.int x0), some (.int G159), some (.int r1)]) (st1 := [.int G159]) (hp1 := (hz F A L)) rfl ?_
  subst T
  exact w_ri rfl (cvQ rfl rfl rfl K)
noncomputable def km_isSet_2 (f67_3 : Int32) (a68 : List Int32) (x1 : Int32) : Nat → Int32 → Int32
  | 0, _ => 1
  | m + 1, y2 => (if (km_has x1 y2) = 0 then (km_isSet_2 f67_3 a68 x1 m (y2 + 1)) else (if (km_beatsAll f67_3 a68 y2 ((km_allMeasures f67_3) &&& (x1 ^^^ (-1)))) = 0 then 0 else (km_isSet_2 f67_3 a68 x1 m (y2 + 1))))
theorem t_km_isSet_2 {f : Nat} {Q : Option Value → sm_H → Prop} : ∀ (m : Nat) {B D : Nat} {F : Nat → Nat → Int32} {A : Nat → List Int32} {L : Nat → List Int64} {x1 : Int32} {y2 : Int32}, m = ((F 67 3).toInt - y2.toInt).toNat → (Q (some (.int (km_isSet_2 (F 67 3) (A 68) x1 m y2))) (hz F A L)) → wl_E f B D mm216.2.2.2.2.2.2.2.2 2 [some (.ref 67), some (.int x1), some (.int y2)] [] (hz F A L) Q := by
  intro m
  induction m with
  | zero =>
    intro B D F A L x1 y2 hm K
    generalize hT : (km_isSet_2 (F 67 3) (A 68) x1 0 y2) = T at K
    have hE : T = 1 := hT.symm
    clear hT
    refine w_n 3 (pc1 := 7) (ls1 := [some (.ref 67), some (.int x1), some (.int y2)]) (st1 := [.int (F 67 3), .int y2]) (hp1 := (hz F A L)) rfl ?_
    refine w_ge (p3 := 10) rfl rfl (fun hb => ?_) (fun h => False.elim (by have h : y2.toInt < (F 67 3).toInt := h; omega))
    refine w_n 1 (pc1 := 43) (ls1 := [some (.ref 67), some (.int x1), some (.int y2)]) (st1 := [.int 1]) (hp1 := (hz F A L)) rfl ?_
    subst T
    exact w_ri rfl (cvQ rfl rfl rfl K)
  | succ m ih =>
    intro B D F A L x1 y2 hm K
    generalize hT : (km_isSet_2 (F 67 3) (A 68) x1 (m + 1) y2) = T at K
    have hE : T = (if (km_has x1 y2) = 0 then (km_isSet_2 (F 67 3) (A 68) x1 m (y2 + 1)) else (if (km_beatsAll (F 67 3) (A 68) y2 ((km_allMeasures (F 67 3)) &&& (x1 ^^^ (-1)))) = 0 then 0 else (km_isSet_2 (F 67 3) (A 68) x1 m (y2 + 1)))) := hT.symm
    clear hT
    refine w_n 3 (pc1 := 7) (ls1 := [some (.ref 67), some (.int x1), some (.int y2)]) (st1 := [.int (F 67 3), .int y2]) (hp1 := (hz F A L)) rfl ?_
    refine w_ge (p3 := 10) rfl rfl (fun h => False.elim (by have h : (F 67 3).toInt ≤ y2.toInt := h; omega)) (fun hb => ?_)
    refine w_n 2 (pc1 := 12) (ls1 := [some (.ref 67), some (.int x1), some (.int y2)]) (st1 := [.int y2, .int x1]) (hp1 := (hz F A L)) rfl ?_
    refine w_c rfl rfl (t_km_has ?_)
    show wl_E f _ _ mm216.2.2.2.2.2.2.2.2 15 [some (.ref 67), some (.int x1), some (.int y2)] [.int (km_has x1 y2)] (hz F A L) _
    generalize hG162 : (km_has x1 y2) = G162 at hE ⊢
    refine w_zeq (p3 := 18) rfl rfl (fun h => ?_) (fun h => ?_)
    · have h1 : G162 = 0 := h
      rw [if_pos h1] at hE
      refine w_n 2 (pc1 := 2) (ls1 := [some (.ref 67), some (.int x1), some (.int (y2 + 1))]) (st1 := []) (hp1 := (hz F A L)) rfl ?_
      subst T
      have hb2 := i_up (B := (F 67 3)) hb
      have hb3 : y2.toInt < (F 67 3).toInt := hb
      exact ih (show m = ((F 67 3).toInt - (y2 + 1).toInt).toNat by rw [hb2]; omega) (cvQ rfl rfl rfl K)
    · have h1 : ¬ G162 = 0 := h
      rw [if_neg h1] at hE
      refine w_n 3 (pc1 := 21) (ls1 := [some (.ref 67), some (.int x1), some (.int y2)]) (st1 := [.ref 67, .int y2, .ref 67]) (hp1 := (hz F A L)) rfl ?_
      refine w_c rfl rfl (t_km_allMeasures ?_)
      show wl_E f _ _ mm216.2.2.2.2.2.2.2.2 24 [some (.ref 67), some (.int x1), some (.int y2)] [.int (km_allMeasures (F 67 3)), .int y2, .ref 67] (hz F A L) _
      generalize hG163 : (km_allMeasures (F 67 3)) = G163 at hE ⊢
      refine w_n 4 (pc1 := 28) (ls1 := [some (.ref 67), some (.int x1), some (.int y2)]) (st1 := [.int (G163 &&& (x1 ^^^ (-1))), .int y2, .ref 67]) (hp1 := (hz F A L)) rfl ?_
      refine w_c rfl rfl (t_km_beatsAll ?_)
      show wl_E f _ _ mm216.2.2.2.2.2.2.2.2 31 [some (.ref 67), some (.int x1), some (.int y2)] [.int (km_beatsAll (F 67 3) (A 68) y2 (G163 &&& (x1 ^^^ (-1))))] (hz F A L) _
      generalize hG164 : (km_beatsAll (F 67 3) (A 68) y2 (G163 &&& (x1 ^^^ (-1)))) = G164 at hE ⊢
      refine w_zne (p3 := 34) rfl rfl (fun h => ?_) (fun h => ?_)
      · have h2 : ¬ G164 = 0 := h
        rw [if_neg h2] at hE
        refine w_n 2 (pc1 := 2) (ls1 := [some (.ref 67), some (.int x1), some (.int (y2 + 1))]) (st1 := []) (hp1 := (hz F A L)) rfl ?_
        subst T
        have hb2 := i_up (B := (F 67 3)) hb
        have hb3 : y2.toInt < (F 67 3).toInt := hb
        exact ih (show m = ((F 67 3).toInt - (y2 + 1).toInt).toNat by rw [hb2]; omega) (cvQ rfl rfl rfl K)
      · have h2 : G164 = 0 := h
        rw [if_pos h2] at hE
        refine w_n 1 (pc1 := 35) (ls1 := [some (.ref 67), some (.int x1), some (.int y2)]) (st1 := [.int 0]) (hp1 := (hz F A L)) rfl ?_
        subst T
        exact w_ri rfl (cvQ rfl rfl rfl K)
noncomputable def km_isSet (f67_3 : Int32) (a68 : List Int32) (x1 : Int32) : Int32 := (km_isSet_2 f67_3 a68 x1 f67_3.toInt.toNat 0)
theorem t_km_isSet {f D : Nat} {F : Nat → Nat → Int32} {A : Nat → List Int32} {L : Nat → List Int64} {Q : Option Value → sm_H → Prop} {x1 : Int32} (K : Q (some (.int (km_isSet (F 67 3) (A 68) x1))) (hz F A L)) : wl_M f D 216 [.ref 67, .int x1] (hz F A L) Q := by
  generalize hT : (km_isSet (F 67 3) (A 68) x1) = T at K
  have hE : T = (km_isSet_2 (F 67 3) (A 68) x1 (F 67 3).toInt.toNat 0) := hT.symm
  clear hT
  refine w_m (E := mm216) rfl ?_
  show wl_E f f (D - 1) mm216.2.2.2.2.2.2.2.2 0 [some (.ref 67), some (.int x1), none] [] (hz F A L) Q
  refine w_n 2 (pc1 := 2) (ls1 := [some (.ref 67), some (.int x1), some (.int 0)]) (st1 := []) (hp1 := (hz F A L)) rfl ?_
  subst T
  exact t_km_isSet_2 _ (show (F 67 3).toInt.toNat = ((F 67 3).toInt - (0 : Int32).toInt).toNat by have e0 : (0 : Int32).toInt = 0 := rfl; first | rfl | omega) (cvQ rfl rfl rfl K)
noncomputable def km_set_7 (f67_3 : Int32) (a68 : List Int32)  : Nat → Int32 → Int32 → Int32
  | 0, y1, _ => y1
  | m + 1, y1, y2 => (if (km_bits y2).toInt < (km_bits y1).toInt then (if (km_isSet f67_3 a68 y2) = 0 then (km_set_7 f67_3 a68 m y1 (y2 + 1)) else (km_set_7 f67_3 a68 m y2 (y2 + 1))) else (km_set_7 f67_3 a68 m y1 (y2 + 1)))
theorem t_km_set_7 {f : Nat} {Q : Option Value → sm_H → Prop} : ∀ (m : Nat) {B D : Nat} {F : Nat → Nat → Int32} {A : Nat → List Int32} {L : Nat → List Int64} {y1 : Int32} {y2 : Int32}, m = ((km_allMeasures (F 67 3)).toInt - y2.toInt).toNat → (∀ q2 : Int32, wl_E f B D mm214.2.2.2.2.2.2.2.2 42 [some (.ref 67), some (.int (km_set_7 (F 67 3) (A 68) m y1 y2)), some (.int q2)] [] (hz F A L) Q) → wl_E f B D mm214.2.2.2.2.2.2.2.2 7 [some (.ref 67), some (.int y1), some (.int y2)] [] (hz F A L) Q := by
  intro m
  induction m with
  | zero =>
    intro B D F A L y1 y2 hm K
    generalize hT : (km_set_7 (F 67 3) (A 68) 0 y1 y2) = T at K
    have hE : T = y1 := hT.symm
    clear hT
    refine w_n 2 (pc1 := 9) (ls1 := [some (.ref 67), some (.int y1), some (.int y2)]) (st1 := [.ref 67, .int y2]) (hp1 := (hz F A L)) rfl ?_
    refine w_c rfl rfl (t_km_allMeasures ?_)
    show wl_E f _ _ mm214.2.2.2.2.2.2.2.2 12 [some (.ref 67), some (.int y1), some (.int y2)] [.int (km_allMeasures (F 67 3)), .int y2] (hz F A L) _
    refine w_ge (p3 := 15) rfl rfl (fun hb => ?_) (fun h => False.elim (by have h : y2.toInt < (km_allMeasures (F 67 3)).toInt := h; omega))
    subst T
    exact cvE rfl rfl rfl (K _)
  | succ m ih =>
    intro B D F A L y1 y2 hm K
    generalize hT : (km_set_7 (F 67 3) (A 68) (m + 1) y1 y2) = T at K
    have hE : T = (if (km_bits y2).toInt < (km_bits y1).toInt then (if (km_isSet (F 67 3) (A 68) y2) = 0 then (km_set_7 (F 67 3) (A 68) m y1 (y2 + 1)) else (km_set_7 (F 67 3) (A 68) m y2 (y2 + 1))) else (km_set_7 (F 67 3) (A 68) m y1 (y2 + 1))) := hT.symm
    clear hT
    refine w_n 2 (pc1 := 9) (ls1 := [some (.ref 67), some (.int y1), some (.int y2)]) (st1 := [.ref 67, .int y2]) (hp1 := (hz F A L)) rfl ?_
    refine w_c rfl rfl (t_km_allMeasures ?_)
    show wl_E f _ _ mm214.2.2.2.2.2.2.2.2 12 [some (.ref 67), some (.int y1), some (.int y2)] [.int (km_allMeasures (F 67 3)), .int y2] (hz F A L) _
    refine w_ge (p3 := 15) rfl rfl (fun h => False.elim (by have h : (km_allMeasures (F 67 3)).toInt ≤ y2.toInt := h; omega)) (fun hb => ?_)
    refine w_n 1 (pc1 := 16) (ls1 := [some (.ref 67), some (.int y1), some (.int y2)]) (st1 := [.int y2]) (hp1 := (hz F A L)) rfl ?_
    refine w_c rfl rfl (t_km_bits ?_)
    show wl_E f _ _ mm214.2.2.2.2.2.2.2.2 19 [some (.ref 67), some (.int y1), some (.int y2)] [.int (km_bits y2)] (hz F A L) _
    generalize hG160 : (km_bits y2) = G160 at hE ⊢
    refine w_n 1 (pc1 := 20) (ls1 := [some (.ref 67), some (.int y1), some (.int y2)]) (st1 := [.int y1, .int G160]) (hp1 := (hz F A L)) rfl ?_
    refine w_c rfl rfl (t_km_bits ?_)
    show wl_E f _ _ mm214.2.2.2.2.2.2.2.2 23 [some (.ref 67), some (.int y1), some (.int y2)] [.int (km_bits y1), .int G160] (hz F A L) _
    generalize hG161 : (km_bits y1) = G161 at hE ⊢
    refine w_ge (p3 := 26) rfl rfl (fun h => ?_) (fun h => ?_)
    · have h1 : G161.toInt ≤ G160.toInt := h
      rw [if_neg (Int.not_lt.mpr h1)] at hE
      refine w_n 2 (pc1 := 7) (ls1 := [some (.ref 67), some (.int y1), some (.int (y2 + 1))]) (st1 := []) (hp1 := (hz F A L)) rfl ?_
      subst T
      have hb2 := i_up (B := (km_allMeasures (F 67 3))) hb
      have hb3 : y2.toInt < (km_allMeasures (F 67 3)).toInt := hb
      exact ih (show m = ((km_allMeasures (F 67 3)).toInt - (y2 + 1).toInt).toNat by rw [hb2]; omega) (fun q2 => cvE rfl rfl rfl (K q2))
    · have h1 : G160.toInt < G161.toInt := h
      rw [if_pos h1] at hE
      refine w_n 2 (pc1 := 28) (ls1 := [some (.ref 67), some (.int y1), some (.int y2)]) (st1 := [.int y2, .ref 67]) (hp1 := (hz F A L)) rfl ?_
      refine w_c rfl rfl (t_km_isSet ?_)
      show wl_E f _ _ mm214.2.2.2.2.2.2.2.2 31 [some (.ref 67), some (.int y1), some (.int y2)] [.int (km_isSet (F 67 3) (A 68) y2)] (hz F A L) _
      generalize hG165 : (km_isSet (F 67 3) (A 68) y2) = G165 at hE ⊢
      refine w_zeq (p3 := 34) rfl rfl (fun h => ?_) (fun h => ?_)
      · have h2 : G165 = 0 := h
        rw [if_pos h2] at hE
        refine w_n 2 (pc1 := 7) (ls1 := [some (.ref 67), some (.int y1), some (.int (y2 + 1))]) (st1 := []) (hp1 := (hz F A L)) rfl ?_
        subst T
        have hb2 := i_up (B := (km_allMeasures (F 67 3))) hb
        have hb3 : y2.toInt < (km_allMeasures (F 67 3)).toInt := hb
        exact ih (show m = ((km_allMeasures (F 67 3)).toInt - (y2 + 1).toInt).toNat by rw [hb2]; omega) (fun q2 => cvE rfl rfl rfl (K q2))
      · have h2 : ¬ G165 = 0 := h
        rw [if_neg h2] at hE
        refine w_n 4 (pc1 := 7) (ls1 := [some (.ref 67), some (.int y2), some (.int (y2 + 1))]) (st1 := []) (hp1 := (hz F A L)) rfl ?_
        subst T
        have hb2 := i_up (B := (km_allMeasures (F 67 3))) hb
        have hb3 : y2.toInt < (km_allMeasures (F 67 3)).toInt := hb
        exact ih (show m = ((km_allMeasures (F 67 3)).toInt - (y2 + 1).toInt).toNat by rw [hb2]; omega) (fun q2 => cvE rfl rfl rfl (K q2))
noncomputable def km_set (f67_3 : Int32) (a68 : List Int32) : Int32 := (km_set_7 f67_3 a68 ((km_allMeasures f67_3).toInt - 1).toNat (km_allMeasures f67_3) 1)
theorem t_km_set {f D : Nat} {F : Nat → Nat → Int32} {A : Nat → List Int32} {L : Nat → List Int64} {Q : Option Value → sm_H → Prop} (K : Q (some (.int (km_set (F 67 3) (A 68)))) (hz F A L)) : wl_M f D 214 [.ref 67] (hz F A L) Q := by
  generalize hT : (km_set (F 67 3) (A 68)) = T at K
  have hE : T = (km_set_7 (F 67 3) (A 68) ((km_allMeasures (F 67 3)).toInt - 1).toNat (km_allMeasures (F 67 3)) 1) := hT.symm
  clear hT
  refine w_m (E := mm214) rfl ?_
  show wl_E f f (D - 1) mm214.2.2.2.2.2.2.2.2 0 [some (.ref 67), none, none] [] (hz F A L) Q
  refine w_n 1 (pc1 := 1) (ls1 := [some (.ref 67), none, none]) (st1 := [.ref 67]) (hp1 := (hz F A L)) rfl ?_
  refine w_c rfl rfl (t_km_allMeasures ?_)
  show wl_E f _ _ mm214.2.2.2.2.2.2.2.2 4 [some (.ref 67), none, none] [.int (km_allMeasures (F 67 3))] (hz F A L) _
  generalize hG158 : (km_allMeasures (F 67 3)) = G158 at hE ⊢
  refine w_n 3 (pc1 := 7) (ls1 := [some (.ref 67), some (.int G158), some (.int 1)]) (st1 := []) (hp1 := (hz F A L)) rfl ?_
  refine t_km_set_7 ((G158.toInt - 1).toNat) (show (G158.toInt - 1).toNat = ((km_allMeasures (F 67 3)).toInt - (1 : Int32).toInt).toNat by rw [hG158]; have e0 : (1 : Int32).toInt = 1 := rfl; first | rfl | omega) ?_
  intro r1
  show wl_E f _ _ mm214.2.2.2.2.2.2.2.2 42 [some (.ref 67), some (.int (km_set_7 (F 67 3) (A 68) (G158.toInt - 1).toNat G158 1)), some (.int r1)] [] (hz F A L) _
  generalize hG166 : (km_set_7 (F 67 3) (A 68) (G158.toInt - 1).toNat G158 1) = G166 at hE ⊢
  refine w_n 1 (pc1 := 43) (ls1 := [some (.ref 67), some (.int G166), some (.int r1)]) (st1 := [.int G166]) (hp1 := (hz F A L)) rfl ?_
  subst T
  exact w_ri rfl (cvQ rfl rfl rfl K)
noncomputable def km_copies_68_69_2 (a68 : List Int32)  : Nat → Int32 → List Int32 → List Int32
  | 0, _, a69 => a69
  | m + 1, y2, a69 => (km_copies_68_69_2 a68 m (y2 + 1) (a69.set y2.toInt.toNat (a68.getD y2.toInt.toNat 0)))
theorem t_km_copies_68_69_2 {f : Nat} {Q : Option Value → sm_H → Prop} : ∀ (m : Nat) {B D : Nat} {F : Nat → Nat → Int32} {A : Nat → List Int32} {L : Nat → List Int64} {y2 : Int32}, m = (150 - y2.toInt).toNat → (∀ q2 : Int32, wl_E f B D mm199.2.2.2.2.2.2.2.2 21 [some (.ref 68), some (.ref 69), some (.int q2)] [] (hz F (uA A 69 (km_copies_68_69_2 (A 68) m y2 (A 69))) L) Q) → wl_E f B D mm199.2.2.2.2.2.2.2.2 2 [some (.ref 68), some (.ref 69), some (.int y2)] [] (hz F A L) Q := by
  intro m
  induction m with
  | zero =>
    intro B D F A L y2 hm K
    generalize hT : (km_copies_68_69_2 (A 68) 0 y2 (A 69)) = T at K
    have hE : T = (A 69) := hT.symm
    clear hT
    refine w_n 2 (pc1 := 6) (ls1 := [some (.ref 68), some (.ref 69), some (.int y2)]) (st1 := [.int 150, .int y2]) (hp1 := (hz F A L)) rfl ?_
    refine w_ge (p3 := 9) rfl rfl (fun hb => ?_) (fun h => False.elim (by have h : y2.toInt < 150 := h; omega))
    subst T
    exact cvE rfl (funext fun q => if k0 : q = 69 then by subst k0; exact Eq.trans (b := (A 69)) rfl rfl else by unfold uA; simp only [nb1 k0, cond_false]) rfl (K _)
  | succ m ih =>
    intro B D F A L y2 hm K
    generalize hT : (km_copies_68_69_2 (A 68) (m + 1) y2 (A 69)) = T at K
    have hE : T = (km_copies_68_69_2 (A 68) m (y2 + 1) ((A 69).set y2.toInt.toNat ((A 68).getD y2.toInt.toNat 0))) := hT.symm
    clear hT
    refine w_n 2 (pc1 := 6) (ls1 := [some (.ref 68), some (.ref 69), some (.int y2)]) (st1 := [.int 150, .int y2]) (hp1 := (hz F A L)) rfl ?_
    refine w_ge (p3 := 9) rfl rfl (fun h => False.elim (by have h : 150 ≤ y2.toInt := h; omega)) (fun hb => ?_)
    refine w_n 4 (pc1 := 13) (ls1 := [some (.ref 68), some (.ref 69), some (.int y2)]) (st1 := [.int y2, .ref 68, .int y2, .ref 69]) (hp1 := (hz F A L)) rfl ?_
    refine w_al (k := 68) (l := (A 68)) rfl rfl rfl (fun ab => ?_)
    refine w_as (k := 69) (l := (A 69)) (hp1 := (hz F (uA A 69 ((A 69).set y2.toInt.toNat ((A 68).getD y2.toInt.toNat 0))) L)) rfl rfl rfl (hz_s69 _) (fun ab => ?_)
    refine w_n 2 (pc1 := 2) (ls1 := [some (.ref 68), some (.ref 69), some (.int (y2 + 1))]) (st1 := []) (hp1 := (hz F (uA A 69 ((A 69).set y2.toInt.toNat ((A 68).getD y2.toInt.toNat 0))) L)) rfl ?_
    subst T
    have hb2 := i_up (B := (150 : Int32)) hb
    have hb3 : y2.toInt < 150 := hb
    exact ih (show m = (150 - (y2 + 1).toInt).toNat by rw [hb2]; omega) (fun q2 => cvE rfl (funext fun q => if k0 : q = 69 then by subst k0; exact Eq.trans (b := (km_copies_68_69_2 (A 68) m (y2 + 1) ((A 69).set y2.toInt.toNat ((A 68).getD y2.toInt.toNat 0)))) rfl rfl else by unfold uA; simp only [nb1 k0, cond_false]) rfl (K q2))
noncomputable def km_copies_68_69 (a68 : List Int32) (a69 : List Int32) : List Int32 := (km_copies_68_69_2 a68 150 0 a69)
theorem t_km_copies_68_69 {f D : Nat} {F : Nat → Nat → Int32} {A : Nat → List Int32} {L : Nat → List Int64} {Q : Option Value → sm_H → Prop} (K : Q none (hz F (uA A 69 (km_copies_68_69 (A 68) (A 69))) L)) : wl_M f D 199 [.ref 68, .ref 69] (hz F A L) Q := by
  generalize hT : (km_copies_68_69 (A 68) (A 69)) = T at K
  have hE : T = (km_copies_68_69_2 (A 68) 150 0 (A 69)) := hT.symm
  clear hT
  refine w_m (E := mm199) rfl ?_
  show wl_E f f (D - 1) mm199.2.2.2.2.2.2.2.2 0 [some (.ref 68), some (.ref 69), none] [] (hz F A L) Q
  refine w_n 2 (pc1 := 2) (ls1 := [some (.ref 68), some (.ref 69), some (.int 0)]) (st1 := []) (hp1 := (hz F A L)) rfl ?_
  refine t_km_copies_68_69_2 150 (show (150 : Nat) = (150 - (0 : Int32).toInt).toNat by have e0 : (0 : Int32).toInt = 0 := rfl; first | rfl | omega) ?_
  intro r1
  show wl_E f _ _ mm199.2.2.2.2.2.2.2.2 21 [some (.ref 68), some (.ref 69), some (.int r1)] [] (hz F (uA A 69 (km_copies_68_69_2 (A 68) 150 0 (A 69))) L) _
  generalize hG169 : (km_copies_68_69_2 (A 68) 150 0 (A 69)) = G169 at hE ⊢
  subst T
  exact w_r rfl rfl (cvQ rfl rfl rfl K)
noncomputable def km_feelsOne_2   : Nat → Int32 → List Int32 → List Int32
  | 0, _, a84 => a84
  | m + 1, y2, a84 => (km_feelsOne_2 m (y2 + 1) (a84.set y2.toInt.toNat 0))
theorem t_km_feelsOne_2 {f : Nat} {Q : Option Value → sm_H → Prop} : ∀ (m : Nat) {B D : Nat} {F : Nat → Nat → Int32} {A : Nat → List Int32} {L : Nat → List Int64} {x1 : Int32} {y2 : Int32}, m = (8 - y2.toInt).toNat → (∀ q2 : Int32, wl_E f B D mm179.2.2.2.2.2.2.2.2 21 [some (.ref 67), some (.int x1), some (.int q2)] [] (hz F (uA A 84 (km_feelsOne_2 m y2 (A 84))) L) Q) → wl_E f B D mm179.2.2.2.2.2.2.2.2 2 [some (.ref 67), some (.int x1), some (.int y2)] [] (hz F A L) Q := by
  intro m
  induction m with
  | zero =>
    intro B D F A L x1 y2 hm K
    generalize hT : (km_feelsOne_2 0 y2 (A 84)) = T at K
    have hE : T = (A 84) := hT.symm
    clear hT
    refine w_n 2 (pc1 := 5) (ls1 := [some (.ref 67), some (.int x1), some (.int y2)]) (st1 := [.int 8, .int y2]) (hp1 := (hz F A L)) rfl ?_
    refine w_ge (p3 := 8) rfl rfl (fun hb => ?_) (fun h => False.elim (by have h : y2.toInt < 8 := h; omega))
    subst T
    exact cvE rfl (funext fun q => if k0 : q = 84 then by subst k0; exact Eq.trans (b := (A 84)) rfl rfl else by unfold uA; simp only [nb1 k0, cond_false]) rfl (K _)
  | succ m ih =>
    intro B D F A L x1 y2 hm K
    generalize hT : (km_feelsOne_2 (m + 1) y2 (A 84)) = T at K
    have hE : T = (km_feelsOne_2 m (y2 + 1) ((A 84).set y2.toInt.toNat 0)) := hT.symm
    clear hT
    refine w_n 2 (pc1 := 5) (ls1 := [some (.ref 67), some (.int x1), some (.int y2)]) (st1 := [.int 8, .int y2]) (hp1 := (hz F A L)) rfl ?_
    refine w_ge (p3 := 8) rfl rfl (fun h => False.elim (by have h : 8 ≤ y2.toInt := h; omega)) (fun hb => ?_)
    refine w_n 4 (pc1 := 14) (ls1 := [some (.ref 67), some (.int x1), some (.int y2)]) (st1 := [.int 0, .int y2, .ref 84]) (hp1 := (hz F A L)) rfl ?_
    refine w_as (k := 84) (l := (A 84)) (hp1 := (hz F (uA A 84 ((A 84).set y2.toInt.toNat 0)) L)) rfl rfl rfl (hz_s84 _) (fun ab => ?_)
    refine w_n 2 (pc1 := 2) (ls1 := [some (.ref 67), some (.int x1), some (.int (y2 + 1))]) (st1 := []) (hp1 := (hz F (uA A 84 ((A 84).set y2.toInt.toNat 0)) L)) rfl ?_
    subst T
    have hb2 := i_up (B := (8 : Int32)) hb
    have hb3 : y2.toInt < 8 := hb
    exact ih (show m = (8 - (y2 + 1).toInt).toNat by rw [hb2]; omega) (fun q2 => cvE rfl (funext fun q => if k0 : q = 84 then by subst k0; exact Eq.trans (b := (km_feelsOne_2 m (y2 + 1) ((A 84).set y2.toInt.toNat 0))) rfl rfl else by unfold uA; simp only [nb1 k0, cond_false]) rfl (K q2))
noncomputable def km_feelsOne (a68 : List Int32) (a84 : List Int32) (x1 : Int32) : List Int32 := ((((((km_feelsOne_2 8 0 a84).set 0 x1).set 4 (a68.getD (12 + x1).toInt.toNat 0)).set 5 (a68.getD (36 + x1).toInt.toNat 0)).set 6 (a68.getD (60 + x1).toInt.toNat 0)).set 7 (a68.getD 147 0))
theorem t_km_feelsOne {f D : Nat} {F : Nat → Nat → Int32} {A : Nat → List Int32} {L : Nat → List Int64} {Q : Option Value → sm_H → Prop} {x1 : Int32} (K : Q none (hz F (uA A 84 (km_feelsOne (A 68) (A 84) x1)) L)) : wl_M f D 179 [.ref 67, .int x1] (hz F A L) Q := by
  generalize hT : (km_feelsOne (A 68) (A 84) x1) = T at K
  have hE : T = ((((((km_feelsOne_2 8 0 (A 84)).set 0 x1).set 4 ((A 68).getD (12 + x1).toInt.toNat 0)).set 5 ((A 68).getD (36 + x1).toInt.toNat 0)).set 6 ((A 68).getD (60 + x1).toInt.toNat 0)).set 7 ((A 68).getD 147 0)) := hT.symm
  clear hT
  refine w_m (E := mm179) rfl ?_
  show wl_E f f (D - 1) mm179.2.2.2.2.2.2.2.2 0 [some (.ref 67), some (.int x1), none] [] (hz F A L) Q
  refine w_n 2 (pc1 := 2) (ls1 := [some (.ref 67), some (.int x1), some (.int 0)]) (st1 := []) (hp1 := (hz F A L)) rfl ?_
  refine t_km_feelsOne_2 8 (show (8 : Nat) = (8 - (0 : Int32).toInt).toNat by have e0 : (0 : Int32).toInt = 0 := rfl; first | rfl | omega) ?_
  intro r1
  show wl_E f _ _ mm179.2.2.2.2.2.2.2.2 21 [some (.ref 67), some (.int x1), some (.int r1)] [] (hz F (uA A 84 (km_feelsOne_2 8 0 (A 84))) L) _
  generalize hG171 : (km_feelsOne_2 8 0 (A 84)) = G171 at hE ⊢
  refine w_n 4 (pc1 := 27) (ls1 := [some (.ref 67), some (.int x1), some (.int r1)]) (st1 := [.int x1, .int 0, .ref 84]) (hp1 := (hz F (uA A 84 G171) L)) rfl ?_
  refine w_as (k := 84) (l := G171) (hp1 := (hz F (uA (uA A 84 G171) 84 (G171.set 0 x1)) L)) rfl rfl rfl (hz_s84 _) (fun _ => ?_)
  refine w_n 8 (pc1 := 41) (ls1 := [some (.ref 67), some (.int x1), some (.int r1)]) (st1 := [.int (12 + x1), .ref 68, .int 4, .ref 84]) (hp1 := (hz F (uA (uA A 84 G171) 84 (G171.set 0 x1)) L)) rfl ?_
  refine w_al (k := 68) (l := (A 68)) rfl rfl rfl (fun _ => ?_)
  refine w_as (k := 84) (l := (G171.set 0 x1)) (hp1 := (hz F (uA (uA (uA A 84 G171) 84 (G171.set 0 x1)) 84 ((G171.set 0 x1).set 4 ((A 68).getD (12 + x1).toInt.toNat 0))) L)) rfl rfl rfl (hz_s84 _) (fun _ => ?_)
  refine w_n 8 (pc1 := 56) (ls1 := [some (.ref 67), some (.int x1), some (.int r1)]) (st1 := [.int (36 + x1), .ref 68, .int 5, .ref 84]) (hp1 := (hz F (uA (uA (uA A 84 G171) 84 (G171.set 0 x1)) 84 ((G171.set 0 x1).set 4 ((A 68).getD (12 + x1).toInt.toNat 0))) L)) rfl ?_
  refine w_al (k := 68) (l := (A 68)) rfl rfl rfl (fun _ => ?_)
  refine w_as (k := 84) (l := ((G171.set 0 x1).set 4 ((A 68).getD (12 + x1).toInt.toNat 0))) (hp1 := (hz F (uA (uA (uA (uA A 84 G171) 84 (G171.set 0 x1)) 84 ((G171.set 0 x1).set 4 ((A 68).getD (12 + x1).toInt.toNat 0))) 84 (((G171.set 0 x1).set 4 ((A 68).getD (12 + x1).toInt.toNat 0)).set 5 ((A 68).getD (36 + x1).toInt.toNat 0))) L)) rfl rfl rfl (hz_s84 _) (fun _ => ?_)
  refine w_n 8 (pc1 := 72) (ls1 := [some (.ref 67), some (.int x1), some (.int r1)]) (st1 := [.int (60 + x1), .ref 68, .int 6, .ref 84]) (hp1 := (hz F (uA (uA (uA (uA A 84 G171) 84 (G171.set 0 x1)) 84 ((G171.set 0 x1).set 4 ((A 68).getD (12 + x1).toInt.toNat 0))) 84 (((G171.set 0 x1).set 4 ((A 68).getD (12 + x1).toInt.toNat 0)).set 5 ((A 68).getD (36 + x1).toInt.toNat 0))) L)) rfl ?_
  refine w_al (k := 68) (l := (A 68)) rfl rfl rfl (fun _ => ?_)
  refine w_as (k := 84) (l := (((G171.set 0 x1).set 4 ((A 68).getD (12 + x1).toInt.toNat 0)).set 5 ((A 68).getD (36 + x1).toInt.toNat 0))) (hp1 := (hz F (uA (uA (uA (uA (uA A 84 G171) 84 (G171.set 0 x1)) 84 ((G171.set 0 x1).set 4 ((A 68).getD (12 + x1).toInt.toNat 0))) 84 (((G171.set 0 x1).set 4 ((A 68).getD (12 + x1).toInt.toNat 0)).set 5 ((A 68).getD (36 + x1).toInt.toNat 0))) 84 ((((G171.set 0 x1).set 4 ((A 68).getD (12 + x1).toInt.toNat 0)).set 5 ((A 68).getD (36 + x1).toInt.toNat 0)).set 6 ((A 68).getD (60 + x1).toInt.toNat 0))) L)) rfl rfl rfl (hz_s84 _) (fun _ => ?_)
  refine w_n 6 (pc1 := 87) (ls1 := [some (.ref 67), some (.int x1), some (.int r1)]) (st1 := [.int 147, .ref 68, .int 7, .ref 84]) (hp1 := (hz F (uA (uA (uA (uA (uA A 84 G171) 84 (G171.set 0 x1)) 84 ((G171.set 0 x1).set 4 ((A 68).getD (12 + x1).toInt.toNat 0))) 84 (((G171.set 0 x1).set 4 ((A 68).getD (12 + x1).toInt.toNat 0)).set 5 ((A 68).getD (36 + x1).toInt.toNat 0))) 84 ((((G171.set 0 x1).set 4 ((A 68).getD (12 + x1).toInt.toNat 0)).set 5 ((A 68).getD (36 + x1).toInt.toNat 0)).set 6 ((A 68).getD (60 + x1).toInt.toNat 0))) L)) rfl ?_
  refine w_al (k := 68) (l := (A 68)) rfl rfl rfl (fun _ => ?_)
  refine w_as (k := 84) (l := ((((G171.set 0 x1).set 4 ((A 68).getD (12 + x1).toInt.toNat 0)).set 5 ((A 68).getD (36 + x1).toInt.toNat 0)).set 6 ((A 68).getD (60 + x1).toInt.toNat 0))) (hp1 := (hz F (uA (uA (uA (uA (uA (uA A 84 G171) 84 (G171.set 0 x1)) 84 ((G171.set 0 x1).set 4 ((A 68).getD (12 + x1).toInt.toNat 0))) 84 (((G171.set 0 x1).set 4 ((A 68).getD (12 + x1).toInt.toNat 0)).set 5 ((A 68).getD (36 + x1).toInt.toNat 0))) 84 ((((G171.set 0 x1).set 4 ((A 68).getD (12 + x1).toInt.toNat 0)).set 5 ((A 68).getD (36 + x1).toInt.toNat 0)).set 6 ((A 68).getD (60 + x1).toInt.toNat 0))) 84 (((((G171.set 0 x1).set 4 ((A 68).getD (12 + x1).toInt.toNat 0)).set 5 ((A 68).getD (36 + x1).toInt.toNat 0)).set 6 ((A 68).getD (60 + x1).toInt.toNat 0)).set 7 ((A 68).getD 147 0))) L)) rfl rfl rfl (hz_s84 _) (fun _ => ?_)
  subst T
  exact w_r rfl rfl (cvQ rfl (funext fun q => if k0 : q = 84 then by subst k0; exact Eq.trans (b := (((((G171.set 0 x1).set 4 ((A 68).getD (12 + x1).toInt.toNat 0)).set 5 ((A 68).getD (36 + x1).toInt.toNat 0)).set 6 ((A 68).getD (60 + x1).toInt.toNat 0)).set 7 ((A 68).getD 147 0))) rfl rfl else by unfold uA; simp only [nb1 k0, cond_false]) rfl K)
noncomputable def km_reckon (x0 : Int32) (x1 : Int32) (x2 : Int32) : Int32 := (if x0 = 2 then (x1 + x2) else (if x0 = 3 then (x1 - x2) else (if x0 = 4 then (x1 * x2) else (if x0 = 5 then (x1 / x2) else (if x0 = 6 then (x1 - x1 / x2 * x2) else (if x0 = 7 then (if x1.toInt < x2.toInt then 1 else 0) else (if x0 = 8 then (if x2.toInt < x1.toInt then 1 else 0) else (if x1 = x2 then 1 else 0))))))))
theorem t_km_reckon {f D : Nat} {F : Nat → Nat → Int32} {A : Nat → List Int32} {L : Nat → List Int64} {Q : Option Value → sm_H → Prop} {x0 : Int32} {x1 : Int32} {x2 : Int32} (K : Q (some (.int (km_reckon x0 x1 x2))) (hz F A L)) : wl_M f D 182 [.int x0, .int x1, .int x2] (hz F A L) Q := by
  generalize hT : (km_reckon x0 x1 x2) = T at K
  have hE : T = (if x0 = 2 then (x1 + x2) else (if x0 = 3 then (x1 - x2) else (if x0 = 4 then (x1 * x2) else (if x0 = 5 then (x1 / x2) else (if x0 = 6 then (x1 - x1 / x2 * x2) else (if x0 = 7 then (if x1.toInt < x2.toInt then 1 else 0) else (if x0 = 8 then (if x2.toInt < x1.toInt then 1 else 0) else (if x1 = x2 then 1 else 0)))))))) := hT.symm
  clear hT
  refine w_m (E := mm182) rfl ?_
  show wl_E f f (D - 1) mm182.2.2.2.2.2.2.2.2 0 [some (.int x0), some (.int x1), some (.int x2)] [] (hz F A L) Q
  refine w_n 1 (pc1 := 1) (ls1 := [some (.int x0), some (.int x1), some (.int x2)]) (st1 := [.int x0]) (hp1 := (hz F A L)) rfl ?_
  by_cases h : x0 = 2
  · have h1 : x0 = 2 := h
    rw [if_pos h1] at hE
    refine w_k h1 ?_
    refine w_n 1 (pc1 := 44) (ls1 := [some (.int x0), some (.int x1), some (.int x2)]) (st1 := []) (hp1 := (hz F A L)) rfl ?_
    refine w_n 3 (pc1 := 47) (ls1 := [some (.int x0), some (.int x1), some (.int x2)]) (st1 := [.int (x1 + x2)]) (hp1 := (hz F A L)) rfl ?_
    subst T
    exact w_ri rfl (cvQ rfl rfl rfl K)
  · have h1 : ¬ x0 = 2 := h
    rw [if_neg h1] at hE
    by_cases h : x0 = 3
    · have h2 : x0 = 3 := h
      rw [if_pos h2] at hE
      refine w_k h2 ?_
      refine w_n 1 (pc1 := 48) (ls1 := [some (.int x0), some (.int x1), some (.int x2)]) (st1 := []) (hp1 := (hz F A L)) rfl ?_
      refine w_n 3 (pc1 := 51) (ls1 := [some (.int x0), some (.int x1), some (.int x2)]) (st1 := [.int (x1 - x2)]) (hp1 := (hz F A L)) rfl ?_
      subst T
      exact w_ri rfl (cvQ rfl rfl rfl K)
    · have h2 : ¬ x0 = 3 := h
      rw [if_neg h2] at hE
      by_cases h : x0 = 4
      · have h3 : x0 = 4 := h
        rw [if_pos h3] at hE
        refine w_k h3 ?_
        refine w_n 1 (pc1 := 52) (ls1 := [some (.int x0), some (.int x1), some (.int x2)]) (st1 := []) (hp1 := (hz F A L)) rfl ?_
        refine w_n 3 (pc1 := 55) (ls1 := [some (.int x0), some (.int x1), some (.int x2)]) (st1 := [.int (x1 * x2)]) (hp1 := (hz F A L)) rfl ?_
        subst T
        exact w_ri rfl (cvQ rfl rfl rfl K)
      · have h3 : ¬ x0 = 4 := h
        rw [if_neg h3] at hE
        by_cases h : x0 = 5
        · have h4 : x0 = 5 := h
          rw [if_pos h4] at hE
          refine w_k h4 ?_
          refine w_n 1 (pc1 := 56) (ls1 := [some (.int x0), some (.int x1), some (.int x2)]) (st1 := []) (hp1 := (hz F A L)) rfl ?_
          refine w_n 2 (pc1 := 58) (ls1 := [some (.int x0), some (.int x1), some (.int x2)]) (st1 := [.int x2, .int x1]) (hp1 := (hz F A L)) rfl ?_
          refine w_dv rfl rfl (fun _ => ?_)
          subst T
          exact w_ri rfl (cvQ rfl rfl rfl K)
        · have h4 : ¬ x0 = 5 := h
          rw [if_neg h4] at hE
          by_cases h : x0 = 6
          · have h5 : x0 = 6 := h
            rw [if_pos h5] at hE
            refine w_k h5 ?_
            refine w_n 1 (pc1 := 60) (ls1 := [some (.int x0), some (.int x1), some (.int x2)]) (st1 := []) (hp1 := (hz F A L)) rfl ?_
            refine w_n 2 (pc1 := 62) (ls1 := [some (.int x0), some (.int x1), some (.int x2)]) (st1 := [.int x2, .int x1]) (hp1 := (hz F A L)) rfl ?_
            refine w_rm rfl rfl (fun _ => ?_)
            subst T
            exact w_ri rfl (cvQ rfl rfl rfl K)
          · have h5 : ¬ x0 = 6 := h
            rw [if_neg h5] at hE
            by_cases h : x0 = 7
            · have h6 : x0 = 7 := h
              rw [if_pos h6] at hE
              refine w_k h6 ?_
              refine w_n 1 (pc1 := 64) (ls1 := [some (.int x0), some (.int x1), some (.int x2)]) (st1 := []) (hp1 := (hz F A L)) rfl ?_
              refine w_n 2 (pc1 := 66) (ls1 := [some (.int x0), some (.int x1), some (.int x2)]) (st1 := [.int x2, .int x1]) (hp1 := (hz F A L)) rfl ?_
              refine w_ge (p3 := 69) rfl rfl (fun h => ?_) (fun h => ?_)
              · have h7 : x2.toInt ≤ x1.toInt := h
                rw [if_neg (Int.not_lt.mpr h7)] at hE
                refine w_n 1 (pc1 := 74) (ls1 := [some (.int x0), some (.int x1), some (.int x2)]) (st1 := [.int 0]) (hp1 := (hz F A L)) rfl ?_
                subst T
                exact w_ri rfl (cvQ rfl rfl rfl K)
              · have h7 : x1.toInt < x2.toInt := h
                rw [if_pos h7] at hE
                refine w_n 2 (pc1 := 74) (ls1 := [some (.int x0), some (.int x1), some (.int x2)]) (st1 := [.int 1]) (hp1 := (hz F A L)) rfl ?_
                subst T
                exact w_ri rfl (cvQ rfl rfl rfl K)
            · have h6 : ¬ x0 = 7 := h
              rw [if_neg h6] at hE
              by_cases h : x0 = 8
              · have h8 : x0 = 8 := h
                rw [if_pos h8] at hE
                refine w_k h8 ?_
                refine w_n 1 (pc1 := 75) (ls1 := [some (.int x0), some (.int x1), some (.int x2)]) (st1 := []) (hp1 := (hz F A L)) rfl ?_
                refine w_n 2 (pc1 := 77) (ls1 := [some (.int x0), some (.int x1), some (.int x2)]) (st1 := [.int x2, .int x1]) (hp1 := (hz F A L)) rfl ?_
                refine w_le (p3 := 80) rfl rfl (fun h => ?_) (fun h => ?_)
                · have h9 : x1.toInt ≤ x2.toInt := h
                  rw [if_neg (Int.not_lt.mpr h9)] at hE
                  refine w_n 1 (pc1 := 85) (ls1 := [some (.int x0), some (.int x1), some (.int x2)]) (st1 := [.int 0]) (hp1 := (hz F A L)) rfl ?_
                  subst T
                  exact w_ri rfl (cvQ rfl rfl rfl K)
                · have h9 : x2.toInt < x1.toInt := h
                  rw [if_pos h9] at hE
                  refine w_n 2 (pc1 := 85) (ls1 := [some (.int x0), some (.int x1), some (.int x2)]) (st1 := [.int 1]) (hp1 := (hz F A L)) rfl ?_
                  subst T
                  exact w_ri rfl (cvQ rfl rfl rfl K)
              · have h8 : ¬ x0 = 8 := h
                rw [if_neg h8] at hE
                have n0 : ¬ x0.toInt = 2 := fun z => h1 (Int32.toInt_inj.mp (show _ = (2 : Int32).toInt from z))
                have n1 : ¬ x0.toInt = 3 := fun z => h2 (Int32.toInt_inj.mp (show _ = (3 : Int32).toInt from z))
                have n2 : ¬ x0.toInt = 4 := fun z => h3 (Int32.toInt_inj.mp (show _ = (4 : Int32).toInt from z))
                have n3 : ¬ x0.toInt = 5 := fun z => h4 (Int32.toInt_inj.mp (show _ = (5 : Int32).toInt from z))
                have n4 : ¬ x0.toInt = 6 := fun z => h5 (Int32.toInt_inj.mp (show _ = (6 : Int32).toInt from z))
                have n5 : ¬ x0.toInt = 7 := fun z => h6 (Int32.toInt_inj.mp (show _ = (7 : Int32).toInt from z))
                have n6 : ¬ x0.toInt = 8 := fun z => h8 (Int32.toInt_inj.mp (show _ = (8 : Int32).toInt from z))
                refine w_tsw rfl (by omega) (p1 := 86) (by decide) (by decide) ?_
                refine w_n 2 (pc1 := 88) (ls1 := [some (.int x0), some (.int x1), some (.int x2)]) (st1 := [.int x2, .int x1]) (hp1 := (hz F A L)) rfl ?_
                refine w_ne (p3 := 91) rfl rfl (fun h => ?_) (fun h => ?_)
                · have h10 : ¬ x1 = x2 := h
                  rw [if_neg h10] at hE
                  refine w_n 1 (pc1 := 96) (ls1 := [some (.int x0), some (.int x1), some (.int x2)]) (st1 := [.int 0]) (hp1 := (hz F A L)) rfl ?_
                  subst T
                  exact w_ri rfl (cvQ rfl rfl rfl K)
                · have h10 : x1 = x2 := h
                  rw [if_pos h10] at hE
                  refine w_n 2 (pc1 := 96) (ls1 := [some (.int x0), some (.int x1), some (.int x2)]) (st1 := [.int 1]) (hp1 := (hz F A L)) rfl ?_
                  subst T
                  exact w_ri rfl (cvQ rfl rfl rfl K)
