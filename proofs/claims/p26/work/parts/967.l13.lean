/-! lifts, printed by genlift.py: 13 -/
noncomputable def kv_weighPairs_17 (f3_1 : Int32) (a6 : List Int32) (l11 : List Int64) (x2 : Int32) : Nat → Int32 → List Int32 → List Int32
  | 0, _, a32 => a32
  | m + 1, y3, a32 => (kv_weighPairs_17 f3_1 a6 l11 x2 m (y3 + 1) (a32.set ((x2 * 6) + y3).toInt.toNat (kv_biscuitsFor f3_1 a6 l11 x2 y3)))
theorem t_kv_weighPairs_17 {f : Nat} {Q : Option Value → sm_H → Prop} : ∀ (m : Nat) {B D : Nat} {F : Nat → Nat → Int32} {A : Nat → List Int32} {L : Nat → List Int64} {x1 : Int32} {x2 : Int32} {y3 : Int32}, m = (x1.toInt - y3.toInt).toNat → (∀ q3 : Int32, wl_E f B D mm86.2.2.2.2.2.2.2.2 45 [some (.ref 30), some (.int x1), some (.int x2), some (.int q3)] [] (hz F (uA A 32 (kv_weighPairs_17 (F 3 1) (A 6) (L 11) x2 m y3 (A 32))) L) Q) → wl_E f B D mm86.2.2.2.2.2.2.2.2 17 [some (.ref 30), some (.int x1), some (.int x2), some (.int y3)] [] (hz F A L) Q := by
  intro m
  induction m with
  | zero =>
    intro B D F A L x1 x2 y3 hm K
    generalize hT : (kv_weighPairs_17 (F 3 1) (A 6) (L 11) x2 0 y3 (A 32)) = T at K
    have hE : T = (A 32) := hT.symm
    clear hT
    refine w_n 2 (pc1 := 19) (ls1 := [some (.ref 30), some (.int x1), some (.int x2), some (.int y3)]) (st1 := [.int x1, .int y3]) (hp1 := (hz F A L)) rfl ?_
    refine w_ge (p3 := 22) rfl rfl (fun hb => ?_) (fun h => False.elim (by have h : y3.toInt < x1.toInt := h; omega))
    subst T
    exact cvE rfl (funext fun q => if k0 : q = 32 then by subst k0; exact Eq.trans (b := (A 32)) rfl rfl else by unfold uA; simp only [nb1 k0, cond_false]) rfl (K _)
  | succ m ih =>
    intro B D F A L x1 x2 y3 hm K
    generalize hT : (kv_weighPairs_17 (F 3 1) (A 6) (L 11) x2 (m + 1) y3 (A 32)) = T at K
    have hE : T = (kv_weighPairs_17 (F 3 1) (A 6) (L 11) x2 m (y3 + 1) ((A 32).set ((x2 * 6) + y3).toInt.toNat (kv_biscuitsFor (F 3 1) (A 6) (L 11) x2 y3))) := hT.symm
    clear hT
    refine w_n 2 (pc1 := 19) (ls1 := [some (.ref 30), some (.int x1), some (.int x2), some (.int y3)]) (st1 := [.int x1, .int y3]) (hp1 := (hz F A L)) rfl ?_
    refine w_ge (p3 := 22) rfl rfl (fun h => False.elim (by have h : x1.toInt ≤ y3.toInt := h; omega)) (fun hb => ?_)
    refine w_n 10 (pc1 := 35) (ls1 := [some (.ref 30), some (.int x1), some (.int x2), some (.int y3)]) (st1 := [.int y3, .int x2, .ref 30, .int ((x2 * 6) + y3), .ref 32]) (hp1 := (hz F A L)) rfl ?_
    refine w_c rfl rfl (t_kv_biscuitsFor ?_)
    show wl_E f _ _ mm86.2.2.2.2.2.2.2.2 38 [some (.ref 30), some (.int x1), some (.int x2), some (.int y3)] [.int (kv_biscuitsFor (F 3 1) (A 6) (L 11) x2 y3), .int ((x2 * 6) + y3), .ref 32] (hz F A L) _
    generalize hG327 : (kv_biscuitsFor (F 3 1) (A 6) (L 11) x2 y3) = G327 at hE ⊢
    refine w_as (k := 32) (l := (A 32)) (hp1 := (hz F (uA A 32 ((A 32).set ((x2 * 6) + y3).toInt.toNat G327)) L)) rfl rfl rfl (hz_s32 _) (fun _ => ?_)
    refine w_n 2 (pc1 := 17) (ls1 := [some (.ref 30), some (.int x1), some (.int x2), some (.int (y3 + 1))]) (st1 := []) (hp1 := (hz F (uA A 32 ((A 32).set ((x2 * 6) + y3).toInt.toNat G327)) L)) rfl ?_
    subst T
    have hb2 := i_up (B := x1) hb
    have hb3 : y3.toInt < x1.toInt := hb
    exact ih (show m = (x1.toInt - (y3 + 1).toInt).toNat by rw [hb2]; omega) (fun q3 => cvE rfl (funext fun q => if k0 : q = 32 then by subst k0; exact Eq.trans (b := (kv_weighPairs_17 (F 3 1) (A 6) (L 11) x2 m (y3 + 1) ((A 32).set ((x2 * 6) + y3).toInt.toNat G327))) rfl rfl else by unfold uA; simp only [nb1 k0, cond_false]) rfl (K q3))
noncomputable def kv_weighPairs_10 (f3_1 : Int32) (a6 : List Int32) (l11 : List Int64) (x1 : Int32) : Nat → Int32 → List Int32 → List Int32
  | 0, _, a32 => a32
  | m + 1, y2, a32 => (kv_weighPairs_10 f3_1 a6 l11 x1 m (y2 + 1) (kv_weighPairs_17 f3_1 a6 l11 y2 x1.toInt.toNat 0 a32))
theorem t_kv_weighPairs_10 {f : Nat} {Q : Option Value → sm_H → Prop} : ∀ (m : Nat) {B D : Nat} {F : Nat → Nat → Int32} {A : Nat → List Int32} {L : Nat → List Int64} {x1 : Int32} {y2 : Int32} {o3 : Option Value}, m = (x1.toInt - y2.toInt).toNat → (∀ q2 : Int32, ∀ q3 : Option Value, wl_E f B D mm86.2.2.2.2.2.2.2.2 51 [some (.ref 30), some (.int x1), some (.int q2), q3] [] (hz F (uA A 32 (kv_weighPairs_10 (F 3 1) (A 6) (L 11) x1 m y2 (A 32))) L) Q) → wl_E f B D mm86.2.2.2.2.2.2.2.2 10 [some (.ref 30), some (.int x1), some (.int y2), o3] [] (hz F A L) Q := by
  intro m
  induction m with
  | zero =>
    intro B D F A L x1 y2 o3 hm K
    generalize hT : (kv_weighPairs_10 (F 3 1) (A 6) (L 11) x1 0 y2 (A 32)) = T at K
    have hE : T = (A 32) := hT.symm
    clear hT
    refine w_n 2 (pc1 := 12) (ls1 := [some (.ref 30), some (.int x1), some (.int y2), o3]) (st1 := [.int x1, .int y2]) (hp1 := (hz F A L)) rfl ?_
    refine w_ge (p3 := 15) rfl rfl (fun hb => ?_) (fun h => False.elim (by have h : y2.toInt < x1.toInt := h; omega))
    subst T
    exact cvE rfl (funext fun q => if k0 : q = 32 then by subst k0; exact Eq.trans (b := (A 32)) rfl rfl else by unfold uA; simp only [nb1 k0, cond_false]) rfl (K _ _)
  | succ m ih =>
    intro B D F A L x1 y2 o3 hm K
    generalize hT : (kv_weighPairs_10 (F 3 1) (A 6) (L 11) x1 (m + 1) y2 (A 32)) = T at K
    have hE : T = (kv_weighPairs_10 (F 3 1) (A 6) (L 11) x1 m (y2 + 1) (kv_weighPairs_17 (F 3 1) (A 6) (L 11) y2 x1.toInt.toNat 0 (A 32))) := hT.symm
    clear hT
    refine w_n 2 (pc1 := 12) (ls1 := [some (.ref 30), some (.int x1), some (.int y2), o3]) (st1 := [.int x1, .int y2]) (hp1 := (hz F A L)) rfl ?_
    refine w_ge (p3 := 15) rfl rfl (fun h => False.elim (by have h : x1.toInt ≤ y2.toInt := h; omega)) (fun hb => ?_)
    refine w_n 2 (pc1 := 17) (ls1 := [some (.ref 30), some (.int x1), some (.int y2), some (.int 0)]) (st1 := []) (hp1 := (hz F A L)) rfl ?_
    refine t_kv_weighPairs_17 x1.toInt.toNat (show x1.toInt.toNat = (x1.toInt - (0 : Int32).toInt).toNat by have e0 : (0 : Int32).toInt = 0 := rfl; first | rfl | omega) ?_
    intro r1
    show wl_E f _ _ mm86.2.2.2.2.2.2.2.2 45 [some (.ref 30), some (.int x1), some (.int y2), some (.int r1)] [] (hz F (uA A 32 (kv_weighPairs_17 (F 3 1) (A 6) (L 11) y2 x1.toInt.toNat 0 (A 32))) L) _
    generalize hG328 : (kv_weighPairs_17 (F 3 1) (A 6) (L 11) y2 x1.toInt.toNat 0 (A 32)) = G328 at hE ⊢
    refine w_n 2 (pc1 := 10) (ls1 := [some (.ref 30), some (.int x1), some (.int (y2 + 1)), some (.int r1)]) (st1 := []) (hp1 := (hz F (uA A 32 G328) L)) rfl ?_
    subst T
    have hb2 := i_up (B := x1) hb
    have hb3 : y2.toInt < x1.toInt := hb
    exact ih (show m = (x1.toInt - (y2 + 1).toInt).toNat by rw [hb2]; omega) (fun q2 q3 => cvE rfl (funext fun q => if k0 : q = 32 then by subst k0; exact Eq.trans (b := (kv_weighPairs_10 (F 3 1) (A 6) (L 11) x1 m (y2 + 1) G328)) rfl rfl else by unfold uA; simp only [nb1 k0, cond_false]) rfl (K q2 q3))
noncomputable def kv_weighPairs_67 (a32 : List Int32) (x2 : Int32) : Nat → Int32 → List Int32 → List Int32
  | 0, _, a33 => a33
  | m + 1, y3, a33 => (if (a32.getD ((y3 * 6) + x2).toInt.toNat 0).toInt < (a32.getD ((x2 * 6) + y3).toInt.toNat 0).toInt then (kv_weighPairs_67 a32 x2 m (y3 + 1) (a33.set x2.toInt.toNat ((a33.getD x2.toInt.toNat 0) ||| ((1 : Int32) <<< (y3 &&& 31))))) else (kv_weighPairs_67 a32 x2 m (y3 + 1) a33))
theorem t_kv_weighPairs_67 {f : Nat} {Q : Option Value → sm_H → Prop} : ∀ (m : Nat) {B D : Nat} {F : Nat → Nat → Int32} {A : Nat → List Int32} {L : Nat → List Int64} {x1 : Int32} {x2 : Int32} {y3 : Int32}, m = (x1.toInt - y3.toInt).toNat → (∀ q3 : Int32, wl_E f B D mm86.2.2.2.2.2.2.2.2 115 [some (.ref 30), some (.int x1), some (.int x2), some (.int q3)] [] (hz F (uA A 33 (kv_weighPairs_67 (A 32) x2 m y3 (A 33))) L) Q) → wl_E f B D mm86.2.2.2.2.2.2.2.2 67 [some (.ref 30), some (.int x1), some (.int x2), some (.int y3)] [] (hz F A L) Q := by
  intro m
  induction m with
  | zero =>
    intro B D F A L x1 x2 y3 hm K
    generalize hT : (kv_weighPairs_67 (A 32) x2 0 y3 (A 33)) = T at K
    have hE : T = (A 33) := hT.symm
    clear hT
    refine w_n 2 (pc1 := 69) (ls1 := [some (.ref 30), some (.int x1), some (.int x2), some (.int y3)]) (st1 := [.int x1, .int y3]) (hp1 := (hz F A L)) rfl ?_
    refine w_ge (p3 := 72) rfl rfl (fun hb => ?_) (fun h => False.elim (by have h : y3.toInt < x1.toInt := h; omega))
    subst T
    exact cvE rfl (funext fun q => if k0 : q = 33 then by subst k0; exact Eq.trans (b := (A 33)) rfl rfl else by unfold uA; simp only [nb1 k0, cond_false]) rfl (K _)
  | succ m ih =>
    intro B D F A L x1 x2 y3 hm K
    generalize hT : (kv_weighPairs_67 (A 32) x2 (m + 1) y3 (A 33)) = T at K
    have hE : T = (if ((A 32).getD ((y3 * 6) + x2).toInt.toNat 0).toInt < ((A 32).getD ((x2 * 6) + y3).toInt.toNat 0).toInt then (kv_weighPairs_67 (A 32) x2 m (y3 + 1) ((A 33).set x2.toInt.toNat (((A 33).getD x2.toInt.toNat 0) ||| ((1 : Int32) <<< (y3 &&& 31))))) else (kv_weighPairs_67 (A 32) x2 m (y3 + 1) (A 33))) := hT.symm
    clear hT
    refine w_n 2 (pc1 := 69) (ls1 := [some (.ref 30), some (.int x1), some (.int x2), some (.int y3)]) (st1 := [.int x1, .int y3]) (hp1 := (hz F A L)) rfl ?_
    refine w_ge (p3 := 72) rfl rfl (fun h => False.elim (by have h : x1.toInt ≤ y3.toInt := h; omega)) (fun hb => ?_)
    refine w_n 7 (pc1 := 82) (ls1 := [some (.ref 30), some (.int x1), some (.int x2), some (.int y3)]) (st1 := [.int ((x2 * 6) + y3), .ref 32]) (hp1 := (hz F A L)) rfl ?_
    refine w_al (k := 32) (l := (A 32)) rfl rfl rfl (fun _ => ?_)
    refine w_n 7 (pc1 := 93) (ls1 := [some (.ref 30), some (.int x1), some (.int x2), some (.int y3)]) (st1 := [.int ((y3 * 6) + x2), .ref 32, .int ((A 32).getD ((x2 * 6) + y3).toInt.toNat 0)]) (hp1 := (hz F A L)) rfl ?_
    refine w_al (k := 32) (l := (A 32)) rfl rfl rfl (fun _ => ?_)
    refine w_le (p3 := 97) rfl rfl (fun h => ?_) (fun h => ?_)
    · have h1 : ((A 32).getD ((x2 * 6) + y3).toInt.toNat 0).toInt ≤ ((A 32).getD ((y3 * 6) + x2).toInt.toNat 0).toInt := h
      rw [if_neg (Int.not_lt.mpr h1)] at hE
      refine w_n 2 (pc1 := 67) (ls1 := [some (.ref 30), some (.int x1), some (.int x2), some (.int (y3 + 1))]) (st1 := []) (hp1 := (hz F A L)) rfl ?_
      subst T
      have hb2 := i_up (B := x1) hb
      have hb3 : y3.toInt < x1.toInt := hb
      exact ih (show m = (x1.toInt - (y3 + 1).toInt).toNat by rw [hb2]; omega) (fun q3 => cvE rfl (funext fun q => if k0 : q = 33 then by subst k0; exact Eq.trans (b := (kv_weighPairs_67 (A 32) x2 m (y3 + 1) (A 33))) rfl rfl else by unfold uA; simp only [nb1 k0, cond_false]) rfl (K q3))
    · have h1 : ((A 32).getD ((y3 * 6) + x2).toInt.toNat 0).toInt < ((A 32).getD ((x2 * 6) + y3).toInt.toNat 0).toInt := h
      rw [if_pos h1] at hE
      refine w_n 4 (pc1 := 103) (ls1 := [some (.ref 30), some (.int x1), some (.int x2), some (.int y3)]) (st1 := [.int x2, .ref 33, .int x2, .ref 33]) (hp1 := (hz F A L)) rfl ?_
      refine w_al (k := 33) (l := (A 33)) rfl rfl rfl (fun _ => ?_)
      refine w_n 4 (pc1 := 108) (ls1 := [some (.ref 30), some (.int x1), some (.int x2), some (.int y3)]) (st1 := [.int (((A 33).getD x2.toInt.toNat 0) ||| ((1 : Int32) <<< (y3 &&& 31))), .int x2, .ref 33]) (hp1 := (hz F A L)) rfl ?_
      refine w_as (k := 33) (l := (A 33)) (hp1 := (hz F (uA A 33 ((A 33).set x2.toInt.toNat (((A 33).getD x2.toInt.toNat 0) ||| ((1 : Int32) <<< (y3 &&& 31))))) L)) rfl rfl rfl (hz_s33 _) (fun _ => ?_)
      refine w_n 2 (pc1 := 67) (ls1 := [some (.ref 30), some (.int x1), some (.int x2), some (.int (y3 + 1))]) (st1 := []) (hp1 := (hz F (uA A 33 ((A 33).set x2.toInt.toNat (((A 33).getD x2.toInt.toNat 0) ||| ((1 : Int32) <<< (y3 &&& 31))))) L)) rfl ?_
      subst T
      have hb2 := i_up (B := x1) hb
      have hb3 : y3.toInt < x1.toInt := hb
      exact ih (show m = (x1.toInt - (y3 + 1).toInt).toNat by rw [hb2]; omega) (fun q3 => cvE rfl (funext fun q => if k0 : q = 33 then by subst k0; exact Eq.trans (b := (kv_weighPairs_67 (A 32) x2 m (y3 + 1) ((A 33).set x2.toInt.toNat (((A 33).getD x2.toInt.toNat 0) ||| ((1 : Int32) <<< (y3 &&& 31)))))) rfl rfl else by unfold uA; simp only [nb1 k0, cond_false]) rfl (K q3))
noncomputable def kv_weighPairs_53 (a32 : List Int32) (x1 : Int32) : Nat → Int32 → List Int32 → List Int32
  | 0, _, a33 => a33
  | m + 1, y2, a33 => (kv_weighPairs_53 a32 x1 m (y2 + 1) (kv_weighPairs_67 a32 y2 x1.toInt.toNat 0 (a33.set y2.toInt.toNat 0)))
theorem t_kv_weighPairs_53 {f : Nat} {Q : Option Value → sm_H → Prop} : ∀ (m : Nat) {B D : Nat} {F : Nat → Nat → Int32} {A : Nat → List Int32} {L : Nat → List Int64} {x1 : Int32} {y2 : Int32} {o3 : Option Value}, m = (x1.toInt - y2.toInt).toNat → (∀ q2 : Int32, ∀ q3 : Option Value, wl_E f B D mm86.2.2.2.2.2.2.2.2 121 [some (.ref 30), some (.int x1), some (.int q2), q3] [] (hz F (uA A 33 (kv_weighPairs_53 (A 32) x1 m y2 (A 33))) L) Q) → wl_E f B D mm86.2.2.2.2.2.2.2.2 53 [some (.ref 30), some (.int x1), some (.int y2), o3] [] (hz F A L) Q := by
  intro m
  induction m with
  | zero =>
    intro B D F A L x1 y2 o3 hm K
    generalize hT : (kv_weighPairs_53 (A 32) x1 0 y2 (A 33)) = T at K
    have hE : T = (A 33) := hT.symm
    clear hT
    refine w_n 2 (pc1 := 55) (ls1 := [some (.ref 30), some (.int x1), some (.int y2), o3]) (st1 := [.int x1, .int y2]) (hp1 := (hz F A L)) rfl ?_
    refine w_ge (p3 := 58) rfl rfl (fun hb => ?_) (fun h => False.elim (by have h : y2.toInt < x1.toInt := h; omega))
    subst T
    exact cvE rfl (funext fun q => if k0 : q = 33 then by subst k0; exact Eq.trans (b := (A 33)) rfl rfl else by unfold uA; simp only [nb1 k0, cond_false]) rfl (K _ _)
  | succ m ih =>
    intro B D F A L x1 y2 o3 hm K
    generalize hT : (kv_weighPairs_53 (A 32) x1 (m + 1) y2 (A 33)) = T at K
    have hE : T = (kv_weighPairs_53 (A 32) x1 m (y2 + 1) (kv_weighPairs_67 (A 32) y2 x1.toInt.toNat 0 ((A 33).set y2.toInt.toNat 0))) := hT.symm
    clear hT
    refine w_n 2 (pc1 := 55) (ls1 := [some (.ref 30), some (.int x1), some (.int y2), o3]) (st1 := [.int x1, .int y2]) (hp1 := (hz F A L)) rfl ?_
    refine w_ge (p3 := 58) rfl rfl (fun h => False.elim (by have h : x1.toInt ≤ y2.toInt := h; omega)) (fun hb => ?_)
    refine w_n 4 (pc1 := 64) (ls1 := [some (.ref 30), some (.int x1), some (.int y2), o3]) (st1 := [.int 0, .int y2, .ref 33]) (hp1 := (hz F A L)) rfl ?_
    refine w_as (k := 33) (l := (A 33)) (hp1 := (hz F (uA A 33 ((A 33).set y2.toInt.toNat 0)) L)) rfl rfl rfl (hz_s33 _) (fun ab => ?_)
    refine w_n 2 (pc1 := 67) (ls1 := [some (.ref 30), some (.int x1), some (.int y2), some (.int 0)]) (st1 := []) (hp1 := (hz F (uA A 33 ((A 33).set y2.toInt.toNat 0)) L)) rfl ?_
    refine t_kv_weighPairs_67 x1.toInt.toNat (show x1.toInt.toNat = (x1.toInt - (0 : Int32).toInt).toNat by have e0 : (0 : Int32).toInt = 0 := rfl; first | rfl | omega) ?_
    intro r1
    show wl_E f _ _ mm86.2.2.2.2.2.2.2.2 115 [some (.ref 30), some (.int x1), some (.int y2), some (.int r1)] [] (hz F (uA (uA A 33 ((A 33).set y2.toInt.toNat 0)) 33 (kv_weighPairs_67 (A 32) y2 x1.toInt.toNat 0 ((A 33).set y2.toInt.toNat 0))) L) _
    generalize hG330 : (kv_weighPairs_67 (A 32) y2 x1.toInt.toNat 0 ((A 33).set y2.toInt.toNat 0)) = G330 at hE ⊢
    refine w_n 2 (pc1 := 53) (ls1 := [some (.ref 30), some (.int x1), some (.int (y2 + 1)), some (.int r1)]) (st1 := []) (hp1 := (hz F (uA (uA A 33 ((A 33).set y2.toInt.toNat 0)) 33 G330) L)) rfl ?_
    subst T
    have hb2 := i_up (B := x1) hb
    have hb3 : y2.toInt < x1.toInt := hb
    exact ih (show m = (x1.toInt - (y2 + 1).toInt).toNat by rw [hb2]; omega) (fun q2 q3 => cvE rfl (funext fun q => if k0 : q = 33 then by subst k0; exact Eq.trans (b := (kv_weighPairs_53 (A 32) x1 m (y2 + 1) G330)) rfl rfl else by unfold uA; simp only [nb1 k0, cond_false]) rfl (K q2 q3))
noncomputable def kv_weighPairs (f3_0 : Int32) (f3_1 : Int32) (a6 : List Int32) (a32 : List Int32) (a33 : List Int32) (l11 : List Int64) : List Int32 × List Int32 := ((kv_weighPairs_10 f3_1 a6 l11 f3_0 f3_0.toInt.toNat 0 a32), (kv_weighPairs_53 (kv_weighPairs_10 f3_1 a6 l11 f3_0 f3_0.toInt.toNat 0 a32) f3_0 f3_0.toInt.toNat 0 a33))
theorem t_kv_weighPairs {f D : Nat} {F : Nat → Nat → Int32} {A : Nat → List Int32} {L : Nat → List Int64} {Q : Option Value → sm_H → Prop} (K : Q none (hz F (uA (uA A 32 ((kv_weighPairs (F 3 0) (F 3 1) (A 6) (A 32) (A 33) (L 11)).1)) 33 ((kv_weighPairs (F 3 0) (F 3 1) (A 6) (A 32) (A 33) (L 11)).2)) L)) : wl_M f D 86 [.ref 30] (hz F A L) Q := by
  generalize hT : (kv_weighPairs (F 3 0) (F 3 1) (A 6) (A 32) (A 33) (L 11)) = T at K
  have hE : T = ((kv_weighPairs_10 (F 3 1) (A 6) (L 11) (F 3 0) (F 3 0).toInt.toNat 0 (A 32)), (kv_weighPairs_53 (kv_weighPairs_10 (F 3 1) (A 6) (L 11) (F 3 0) (F 3 0).toInt.toNat 0 (A 32)) (F 3 0) (F 3 0).toInt.toNat 0 (A 33))) := hT.symm
  clear hT
  refine w_m (E := mm86) rfl ?_
  show wl_E f f (D - 1) mm86.2.2.2.2.2.2.2.2 0 [some (.ref 30), none, none, none] [] (hz F A L) Q
  refine w_n 6 (pc1 := 10) (ls1 := [some (.ref 30), some (.int (F 3 0)), some (.int 0), none]) (st1 := []) (hp1 := (hz F A L)) rfl ?_
  refine t_kv_weighPairs_10 (F 3 0).toInt.toNat (show (F 3 0).toInt.toNat = ((F 3 0).toInt - (0 : Int32).toInt).toNat by have e0 : (0 : Int32).toInt = 0 := rfl; first | rfl | omega) ?_
  intro r1 r2
  show wl_E f _ _ mm86.2.2.2.2.2.2.2.2 51 [some (.ref 30), some (.int (F 3 0)), some (.int r1), r2] [] (hz F (uA A 32 (kv_weighPairs_10 (F 3 1) (A 6) (L 11) (F 3 0) (F 3 0).toInt.toNat 0 (A 32))) L) _
  generalize hG329 : (kv_weighPairs_10 (F 3 1) (A 6) (L 11) (F 3 0) (F 3 0).toInt.toNat 0 (A 32)) = G329 at hE ⊢
  refine w_n 2 (pc1 := 53) (ls1 := [some (.ref 30), some (.int (F 3 0)), some (.int 0), r2]) (st1 := []) (hp1 := (hz F (uA A 32 G329) L)) rfl ?_
  refine t_kv_weighPairs_53 (F 3 0).toInt.toNat (show (F 3 0).toInt.toNat = ((F 3 0).toInt - (0 : Int32).toInt).toNat by have e0 : (0 : Int32).toInt = 0 := rfl; first | rfl | omega) ?_
  intro r3 r4
  show wl_E f _ _ mm86.2.2.2.2.2.2.2.2 121 [some (.ref 30), some (.int (F 3 0)), some (.int r3), r4] [] (hz F (uA (uA A 32 G329) 33 (kv_weighPairs_53 G329 (F 3 0) (F 3 0).toInt.toNat 0 (A 33))) L) _
  generalize hG331 : (kv_weighPairs_53 G329 (F 3 0) (F 3 0).toInt.toNat 0 (A 33)) = G331 at hE ⊢
  subst T
  exact w_r rfl rfl (cvQ rfl rfl rfl K)
noncomputable def kx_pass (f1_2 : Int32) (f1_3 : Int32) (f1_4 : Int32) (a2 : List Int32) (x1 : Int32) : Int32 × Int32 := (if f1_4 = 0 then (if (kx_sign f1_2 f1_3 a2) = x1 then ((f1_3 + 1), f1_4) else (f1_3, (kx_fail f1_3 f1_4 1).2)) else (f1_3, f1_4))
theorem t_kx_pass {f D : Nat} {F : Nat → Nat → Int32} {A : Nat → List Int32} {L : Nat → List Int64} {Q : Option Value → sm_H → Prop} {x1 : Int32} (K : Q none (hz (uF (uF F 1 3 ((kx_pass (F 1 2) (F 1 3) (F 1 4) (A 2) x1).1)) 1 4 ((kx_pass (F 1 2) (F 1 3) (F 1 4) (A 2) x1).2)) A L)) : wl_M f D 23 [.ref 1, .int x1] (hz F A L) Q := by
  generalize hT : (kx_pass (F 1 2) (F 1 3) (F 1 4) (A 2) x1) = T at K
  have hE : T = (if (F 1 4) = 0 then (if (kx_sign (F 1 2) (F 1 3) (A 2)) = x1 then (((F 1 3) + 1), (F 1 4)) else ((F 1 3), (kx_fail (F 1 3) (F 1 4) 1).2)) else ((F 1 3), (F 1 4))) := hT.symm
  clear hT
  refine w_m (E := mm23) rfl ?_
  show wl_E f f (D - 1) mm23.2.2.2.2.2.2.2.2 0 [some (.ref 1), some (.int x1)] [] (hz F A L) Q
  refine w_n 2 (pc1 := 4) (ls1 := [some (.ref 1), some (.int x1)]) (st1 := [.int (F 1 4)]) (hp1 := (hz F A L)) rfl ?_
  refine w_zeq (p3 := 7) rfl rfl (fun h => ?_) (fun h => ?_)
  · have h1 : (F 1 4) = 0 := h
    rw [if_pos h1] at hE
    refine w_n 1 (pc1 := 9) (ls1 := [some (.ref 1), some (.int x1)]) (st1 := [.ref 1]) (hp1 := (hz F A L)) rfl ?_
    refine w_c rfl rfl (t_kx_sign ?_)
    show wl_E f _ _ mm23.2.2.2.2.2.2.2.2 12 [some (.ref 1), some (.int x1)] [.int (kx_sign (F 1 2) (F 1 3) (A 2))] (hz F A L) _
    generalize hG337 : (kx_sign (F 1 2) (F 1 3) (A 2)) = G337 at hE ⊢
    refine w_n 1 (pc1 := 13) (ls1 := [some (.ref 1), some (.int x1)]) (st1 := [.int x1, .int G337]) (hp1 := (hz F A L)) rfl ?_
    refine w_ne (p3 := 16) rfl rfl (fun h => ?_) (fun h => ?_)
    · have h2 : ¬ G337 = x1 := h
      rw [if_neg h2] at hE
      refine w_n 2 (pc1 := 31) (ls1 := [some (.ref 1), some (.int x1)]) (st1 := [.int 1, .ref 1]) (hp1 := (hz F A L)) rfl ?_
      refine w_c rfl rfl (t_kx_fail ?_)
      show wl_E f _ _ mm23.2.2.2.2.2.2.2.2 34 [some (.ref 1), some (.int x1)] [.int (kx_fail (F 1 3) (F 1 4) 1).1] (hz (uF F 1 4 (kx_fail (F 1 3) (F 1 4) 1).2) A L) _
      generalize hG338 : (kx_fail (F 1 3) (F 1 4) 1) = G338 at hE ⊢
      refine w_n 1 (pc1 := 35) (ls1 := [some (.ref 1), some (.int x1)]) (st1 := []) (hp1 := (hz (uF F 1 4 G338.2) A L)) rfl ?_
      subst T
      exact w_r rfl rfl (cvQ (funext fun q => funext fun z => if k0 : q = 1 ∧ z = 3 then by obtain ⟨w1, w2⟩ := k0; subst w1; subst w2; exact Eq.trans (b := (F 1 3)) rfl rfl else if k1 : q = 1 ∧ z = 4 then by obtain ⟨w1, w2⟩ := k1; subst w1; subst w2; exact Eq.trans (b := G338.2) rfl rfl else by unfold uF; simp only [nb2 k0, nb2 k1, cond_false]) rfl rfl K)
    · have h2 : G337 = x1 := h
      rw [if_pos h2] at hE
      refine w_n 5 (pc1 := 23) (ls1 := [some (.ref 1), some (.int x1)]) (st1 := [.int ((F 1 3) + 1), .ref 1]) (hp1 := (hz F A L)) rfl ?_
      refine w_pf (k := 1) (fs := hz_f1 F) (hp1 := (hz (uF F 1 3 ((F 1 3) + 1)) A L)) rfl rfl rfl (hz_p1_3 _) ?_
      refine w_n 1 (pc1 := 35) (ls1 := [some (.ref 1), some (.int x1)]) (st1 := []) (hp1 := (hz (uF F 1 3 ((F 1 3) + 1)) A L)) rfl ?_
      subst T
      exact w_r rfl rfl (cvQ (funext fun q => funext fun z => if k0 : q = 1 ∧ z = 3 then by obtain ⟨w1, w2⟩ := k0; subst w1; subst w2; exact Eq.trans (b := ((F 1 3) + 1)) rfl rfl else if k1 : q = 1 ∧ z = 4 then by obtain ⟨w1, w2⟩ := k1; subst w1; subst w2; exact Eq.trans (b := (F 1 4)) rfl rfl else by unfold uF; simp only [nb2 k0, nb2 k1, cond_false]) rfl rfl K)
  · have h1 : ¬ (F 1 4) = 0 := h
    rw [if_neg h1] at hE
    subst T
    exact w_r rfl rfl (cvQ (funext fun q => funext fun z => if k0 : q = 1 ∧ z = 3 then by obtain ⟨w1, w2⟩ := k0; subst w1; subst w2; exact Eq.trans (b := (F 1 3)) rfl rfl else if k1 : q = 1 ∧ z = 4 then by obtain ⟨w1, w2⟩ := k1; subst w1; subst w2; exact Eq.trans (b := (F 1 4)) rfl rfl else by unfold uF; simp only [nb2 k0, nb2 k1, cond_false]) rfl rfl K)
noncomputable def kv_winnerOf (f3_0 : Int32) (a33 : List Int32) (x1 : Int32) (x2 : Int32) : Int32 := (if (kt_isMeasure f3_0 x1) = 0 then (-1) else (if (kt_isMeasure f3_0 x2) = 0 then (-1) else (if (((a33.getD x2.toInt.toNat 0) >>> (x1 &&& 31)) &&& 1) = 0 then x1 else x2)))
theorem t_kv_winnerOf {f D : Nat} {F : Nat → Nat → Int32} {A : Nat → List Int32} {L : Nat → List Int64} {Q : Option Value → sm_H → Prop} {x1 : Int32} {x2 : Int32} (K : Q (some (.int (kv_winnerOf (F 3 0) (A 33) x1 x2))) (hz F A L)) : wl_M f D 98 [.ref 30, .int x1, .int x2] (hz F A L) Q := by
  generalize hT : (kv_winnerOf (F 3 0) (A 33) x1 x2) = T at K
  have hE : T = (if (kt_isMeasure (F 3 0) x1) = 0 then (-1) else (if (kt_isMeasure (F 3 0) x2) = 0 then (-1) else (if ((((A 33).getD x2.toInt.toNat 0) >>> (x1 &&& 31)) &&& 1) = 0 then x1 else x2))) := hT.symm
  clear hT
  refine w_m (E := mm98) rfl ?_
  show wl_E f f (D - 1) mm98.2.2.2.2.2.2.2.2 0 [some (.ref 30), some (.int x1), some (.int x2)] [] (hz F A L) Q
  refine w_n 3 (pc1 := 5) (ls1 := [some (.ref 30), some (.int x1), some (.int x2)]) (st1 := [.int x1, .ref 3]) (hp1 := (hz F A L)) rfl ?_
  refine w_c rfl rfl (t_kt_isMeasure ?_)
  show wl_E f _ _ mm98.2.2.2.2.2.2.2.2 8 [some (.ref 30), some (.int x1), some (.int x2)] [.int (kt_isMeasure (F 3 0) x1)] (hz F A L) _
  generalize hG340 : (kt_isMeasure (F 3 0) x1) = G340 at hE ⊢
  refine w_zeq (p3 := 11) rfl rfl (fun h => ?_) (fun h => ?_)
  · have h1 : G340 = 0 := h
    rw [if_pos h1] at hE
    refine w_n 1 (pc1 := 23) (ls1 := [some (.ref 30), some (.int x1), some (.int x2)]) (st1 := [.int (-1)]) (hp1 := (hz F A L)) rfl ?_
    subst T
    exact w_ri rfl (cvQ rfl rfl rfl K)
  · have h1 : ¬ G340 = 0 := h
    rw [if_neg h1] at hE
    refine w_n 3 (pc1 := 16) (ls1 := [some (.ref 30), some (.int x1), some (.int x2)]) (st1 := [.int x2, .ref 3]) (hp1 := (hz F A L)) rfl ?_
    refine w_c rfl rfl (t_kt_isMeasure ?_)
    show wl_E f _ _ mm98.2.2.2.2.2.2.2.2 19 [some (.ref 30), some (.int x1), some (.int x2)] [.int (kt_isMeasure (F 3 0) x2)] (hz F A L) _
    generalize hG341 : (kt_isMeasure (F 3 0) x2) = G341 at hE ⊢
    refine w_zne (p3 := 22) rfl rfl (fun h => ?_) (fun h => ?_)
    · have h2 : ¬ G341 = 0 := h
      rw [if_neg h2] at hE
      refine w_n 3 (pc1 := 29) (ls1 := [some (.ref 30), some (.int x1), some (.int x2)]) (st1 := [.int x2, .ref 33]) (hp1 := (hz F A L)) rfl ?_
      refine w_al (k := 33) (l := (A 33)) rfl rfl rfl (fun _ => ?_)
      refine w_n 4 (pc1 := 34) (ls1 := [some (.ref 30), some (.int x1), some (.int x2)]) (st1 := [.int ((((A 33).getD x2.toInt.toNat 0) >>> (x1 &&& 31)) &&& 1)]) (hp1 := (hz F A L)) rfl ?_
      refine w_zeq (p3 := 37) rfl rfl (fun h => ?_) (fun h => ?_)
      · have h3 : ((((A 33).getD x2.toInt.toNat 0) >>> (x1 &&& 31)) &&& 1) = 0 := h
        rw [if_pos h3] at hE
        refine w_n 1 (pc1 := 42) (ls1 := [some (.ref 30), some (.int x1), some (.int x2)]) (st1 := [.int x1]) (hp1 := (hz F A L)) rfl ?_
        subst T
        exact w_ri rfl (cvQ rfl rfl rfl K)
      · have h3 : ¬ ((((A 33).getD x2.toInt.toNat 0) >>> (x1 &&& 31)) &&& 1) = 0 := h
        rw [if_neg h3] at hE
        refine w_n 2 (pc1 := 42) (ls1 := [some (.ref 30), some (.int x1), some (.int x2)]) (st1 := [.int x2]) (hp1 := (hz F A L)) rfl ?_
        subst T
        exact w_ri rfl (cvQ rfl rfl rfl K)
    · have h2 : G341 = 0 := h
      rw [if_pos h2] at hE
      refine w_n 1 (pc1 := 23) (ls1 := [some (.ref 30), some (.int x1), some (.int x2)]) (st1 := [.int (-1)]) (hp1 := (hz F A L)) rfl ?_
      subst T
      exact w_ri rfl (cvQ rfl rfl rfl K)
noncomputable def ka_winnerOf_b (r : Int32 → Int32 → Int32 → Int32 → List Int32 → List Int32 → Int32 → Int32 → (Int32 × Int32 × Int32)) (f1_2 : Int32) (f1_3 : Int32) (f1_4 : Int32) (f3_0 : Int32) (a2 : List Int32) (a33 : List Int32) (x1 : Int32) (x2 : Int32) : Int32 × Int32 × Int32 := (if f1_4 = 0 then (if (kc_within (kx_sign f1_2 f1_3 a2) 97 ((97 + x1) - 1)) = 0 then (if (kx_sign f1_2 f1_3 a2) = 40 then (if x2.toInt < 8 then (if (kx_pass f1_2 (r f1_2 (r f1_2 (f1_3 + 1) f1_4 f3_0 a2 a33 x1 (x2 + 1)).2.1 (r f1_2 (f1_3 + 1) f1_4 f3_0 a2 a33 x1 (x2 + 1)).2.2 f3_0 a2 a33 x1 (x2 + 1)).2.1 (r f1_2 (r f1_2 (f1_3 + 1) f1_4 f3_0 a2 a33 x1 (x2 + 1)).2.1 (r f1_2 (f1_3 + 1) f1_4 f3_0 a2 a33 x1 (x2 + 1)).2.2 f3_0 a2 a33 x1 (x2 + 1)).2.2 a2 41).2 = 0 then ((kv_winnerOf f3_0 a33 (r f1_2 (f1_3 + 1) f1_4 f3_0 a2 a33 x1 (x2 + 1)).1 (r f1_2 (r f1_2 (f1_3 + 1) f1_4 f3_0 a2 a33 x1 (x2 + 1)).2.1 (r f1_2 (f1_3 + 1) f1_4 f3_0 a2 a33 x1 (x2 + 1)).2.2 f3_0 a2 a33 x1 (x2 + 1)).1), (kx_pass f1_2 (r f1_2 (r f1_2 (f1_3 + 1) f1_4 f3_0 a2 a33 x1 (x2 + 1)).2.1 (r f1_2 (f1_3 + 1) f1_4 f3_0 a2 a33 x1 (x2 + 1)).2.2 f3_0 a2 a33 x1 (x2 + 1)).2.1 (r f1_2 (r f1_2 (f1_3 + 1) f1_4 f3_0 a2 a33 x1 (x2 + 1)).2.1 (r f1_2 (f1_3 + 1) f1_4 f3_0 a2 a33 x1 (x2 + 1)).2.2 f3_0 a2 a33 x1 (x2 + 1)).2.2 a2 41).1, (kx_pass f1_2 (r f1_2 (r f1_2 (f1_3 + 1) f1_4 f3_0 a2 a33 x1 (x2 + 1)).2.1 (r f1_2 (f1_3 + 1) f1_4 f3_0 a2 a33 x1 (x2 + 1)).2.2 f3_0 a2 a33 x1 (x2 + 1)).2.1 (r f1_2 (r f1_2 (f1_3 + 1) f1_4 f3_0 a2 a33 x1 (x2 + 1)).2.1 (r f1_2 (f1_3 + 1) f1_4 f3_0 a2 a33 x1 (x2 + 1)).2.2 f3_0 a2 a33 x1 (x2 + 1)).2.2 a2 41).2) else ((-1), (kx_pass f1_2 (r f1_2 (r f1_2 (f1_3 + 1) f1_4 f3_0 a2 a33 x1 (x2 + 1)).2.1 (r f1_2 (f1_3 + 1) f1_4 f3_0 a2 a33 x1 (x2 + 1)).2.2 f3_0 a2 a33 x1 (x2 + 1)).2.1 (r f1_2 (r f1_2 (f1_3 + 1) f1_4 f3_0 a2 a33 x1 (x2 + 1)).2.1 (r f1_2 (f1_3 + 1) f1_4 f3_0 a2 a33 x1 (x2 + 1)).2.2 f3_0 a2 a33 x1 (x2 + 1)).2.2 a2 41).1, (kx_pass f1_2 (r f1_2 (r f1_2 (f1_3 + 1) f1_4 f3_0 a2 a33 x1 (x2 + 1)).2.1 (r f1_2 (f1_3 + 1) f1_4 f3_0 a2 a33 x1 (x2 + 1)).2.2 f3_0 a2 a33 x1 (x2 + 1)).2.1 (r f1_2 (r f1_2 (f1_3 + 1) f1_4 f3_0 a2 a33 x1 (x2 + 1)).2.1 (r f1_2 (f1_3 + 1) f1_4 f3_0 a2 a33 x1 (x2 + 1)).2.2 f3_0 a2 a33 x1 (x2 + 1)).2.2 a2 41).2)) else ((kx_fail f1_3 f1_4 5).1, f1_3, (kx_fail f1_3 f1_4 5).2)) else ((kx_fail f1_3 f1_4 1).1, f1_3, (kx_fail f1_3 f1_4 1).2)) else (((kx_sign f1_2 f1_3 a2) - 97), (f1_3 + 1), f1_4)) else ((-1), f1_3, f1_4))
theorem t_ka_winnerOf_b {f D : Nat} {n : Nat} {r : Int32 → Int32 → Int32 → Int32 → List Int32 → List Int32 → Int32 → Int32 → (Int32 × Int32 × Int32)} (hr : ∀ (D : Nat) {F : Nat → Nat → Int32} {A : Nat → List Int32} {L : Nat → List Int64} {Q : Option Value → sm_H → Prop} {x1 : Int32} {x2 : Int32}, D ≤ n → (Q (some (.int ((r (F 1 2) (F 1 3) (F 1 4) (F 3 0) (A 2) (A 33) x1 x2).1))) (hz (uF (uF F 1 3 ((r (F 1 2) (F 1 3) (F 1 4) (F 3 0) (A 2) (A 33) x1 x2).2.1)) 1 4 ((r (F 1 2) (F 1 3) (F 1 4) (F 3 0) (A 2) (A 33) x1 x2).2.2)) A L)) → wl_M f D 97 [.ref 62, .int x1, .int x2] (hz F A L) Q) (hnf : n + 1 ≤ f) {F : Nat → Nat → Int32} {A : Nat → List Int32} {L : Nat → List Int64} {Q : Option Value → sm_H → Prop} {x1 : Int32} {x2 : Int32} (hn : D ≤ n + 1) (K : Q (some (.int ((ka_winnerOf_b r (F 1 2) (F 1 3) (F 1 4) (F 3 0) (A 2) (A 33) x1 x2).1))) (hz (uF (uF F 1 3 ((ka_winnerOf_b r (F 1 2) (F 1 3) (F 1 4) (F 3 0) (A 2) (A 33) x1 x2).2.1)) 1 4 ((ka_winnerOf_b r (F 1 2) (F 1 3) (F 1 4) (F 3 0) (A 2) (A 33) x1 x2).2.2)) A L)) : wl_M f D 97 [.ref 62, .int x1, .int x2] (hz F A L) Q := by
  generalize hT : (ka_winnerOf_b r (F 1 2) (F 1 3) (F 1 4) (F 3 0) (A 2) (A 33) x1 x2) = T at K
  have hE : T = (if (F 1 4) = 0 then (if (kc_within (kx_sign (F 1 2) (F 1 3) (A 2)) 97 ((97 + x1) - 1)) = 0 then (if (kx_sign (F 1 2) (F 1 3) (A 2)) = 40 then (if x2.toInt < 8 then (if (kx_pass (F 1 2) (r (F 1 2) (r (F 1 2) ((F 1 3) + 1) (F 1 4) (F 3 0) (A 2) (A 33) x1 (x2 + 1)).2.1 (r (F 1 2) ((F 1 3) + 1) (F 1 4) (F 3 0) (A 2) (A 33) x1 (x2 + 1)).2.2 (F 3 0) (A 2) (A 33) x1 (x2 + 1)).2.1 (r (F 1 2) (r (F 1 2) ((F 1 3) + 1) (F 1 4) (F 3 0) (A 2) (A 33) x1 (x2 + 1)).2.1 (r (F 1 2) ((F 1 3) + 1) (F 1 4) (F 3 0) (A 2) (A 33) x1 (x2 + 1)).2.2 (F 3 0) (A 2) (A 33) x1 (x2 + 1)).2.2 (A 2) 41).2 = 0 then ((kv_winnerOf (F 3 0) (A 33) (r (F 1 2) ((F 1 3) + 1) (F 1 4) (F 3 0) (A 2) (A 33) x1 (x2 + 1)).1 (r (F 1 2) (r (F 1 2) ((F 1 3) + 1) (F 1 4) (F 3 0) (A 2) (A 33) x1 (x2 + 1)).2.1 (r (F 1 2) ((F 1 3) + 1) (F 1 4) (F 3 0) (A 2) (A 33) x1 (x2 + 1)).2.2 (F 3 0) (A 2) (A 33) x1 (x2 + 1)).1), (kx_pass (F 1 2) (r (F 1 2) (r (F 1 2) ((F 1 3) + 1) (F 1 4) (F 3 0) (A 2) (A 33) x1 (x2 + 1)).2.1 (r (F 1 2) ((F 1 3) + 1) (F 1 4) (F 3 0) (A 2) (A 33) x1 (x2 + 1)).2.2 (F 3 0) (A 2) (A 33) x1 (x2 + 1)).2.1 (r (F 1 2) (r (F 1 2) ((F 1 3) + 1) (F 1 4) (F 3 0) (A 2) (A 33) x1 (x2 + 1)).2.1 (r (F 1 2) ((F 1 3) + 1) (F 1 4) (F 3 0) (A 2) (A 33) x1 (x2 + 1)).2.2 (F 3 0) (A 2) (A 33) x1 (x2 + 1)).2.2 (A 2) 41).1, (kx_pass (F 1 2) (r (F 1 2) (r (F 1 2) ((F 1 3) + 1) (F 1 4) (F 3 0) (A 2) (A 33) x1 (x2 + 1)).2.1 (r (F 1 2) ((F 1 3) + 1) (F 1 4) (F 3 0) (A 2) (A 33) x1 (x2 + 1)).2.2 (F 3 0) (A 2) (A 33) x1 (x2 + 1)).2.1 (r (F 1 2) (r (F 1 2) ((F 1 3) + 1) (F 1 4) (F 3 0) (A 2) (A 33) x1 (x2 + 1)).2.1 (r (F 1 2) ((F 1 3) + 1) (F 1 4) (F 3 0) (A 2) (A 33) x1 (x2 + 1)).2.2 (F 3 0) (A 2) (A 33) x1 (x2 + 1)).2.2 (A 2) 41).2) else ((-1), (kx_pass (F 1 2) (r (F 1 2) (r (F 1 2) ((F 1 3) + 1) (F 1 4) (F 3 0) (A 2) (A 33) x1 (x2 + 1)).2.1 (r (F 1 2) ((F 1 3) + 1) (F 1 4) (F 3 0) (A 2) (A 33) x1 (x2 + 1)).2.2 (F 3 0) (A 2) (A 33) x1 (x2 + 1)).2.1 (r (F 1 2) (r (F 1 2) ((F 1 3) + 1) (F 1 4) (F 3 0) (A 2) (A 33) x1 (x2 + 1)).2.1 (r (F 1 2) ((F 1 3) + 1) (F 1 4) (F 3 0) (A 2) (A 33) x1 (x2 + 1)).2.2 (F 3 0) (A 2) (A 33) x1 (x2 + 1)).2.2 (A 2) 41).1, (kx_pass (F 1 2) (r (F 1 2) (r (F 1 2) ((F 1 3) + 1) (F 1 4) (F 3 0) (A 2) (A 33) x1 (x2 + 1)).2.1 (r (F 1 2) ((F 1 3) + 1) (F 1 4) (F 3 0) (A 2) (A 33) x1 (x2 + 1)).2.2 (F 3 0) (A 2) (A 33) x1 (x2 + 1)).2.1 (r (F 1 2) (r (F 1 2) ((F 1 3) + 1) (F 1 4) (F 3 0) (A 2) (A 33) x1 (x2 + 1)).2.1 (r (F 1 2) ((F 1 3) + 1) (F 1 4) (F 3 0) (A 2) (A 33) x1 (x2 + 1)).2.2 (F 3 0) (A 2) (A 33) x1 (x2 + 1)).2.2 (A 2) 41).2)) else ((kx_fail (F 1 3) (F 1 4) 5).1, (F 1 3), (kx_fail (F 1 3) (F 1 4) 5).2)) else ((kx_fail (F 1 3) (F 1 4) 1).1, (F 1 3), (kx_fail (F 1 3) (F 1 4) 1).2)) else (((kx_sign (F 1 2) (F 1 3) (A 2)) - 97), ((F 1 3) + 1), (F 1 4))) else ((-1), (F 1 3), (F 1 4))) := hT.symm
  clear hT
  refine w_m (E := mm97) rfl ?_
  show wl_E f f (D - 1) mm97.2.2.2.2.2.2.2.2 0 [some (.ref 62), some (.int x1), some (.int x2), none, none, none] [] (hz F A L) Q
  refine w_n 3 (pc1 := 7) (ls1 := [some (.ref 62), some (.int x1), some (.int x2), none, none, none]) (st1 := [.int (F 1 4)]) (hp1 := (hz F A L)) rfl ?_
  refine w_zeq (p3 := 10) rfl rfl (fun h => ?_) (fun h => ?_)
  · have h1 : (F 1 4) = 0 := h
    rw [if_pos h1] at hE
    refine w_n 2 (pc1 := 16) (ls1 := [some (.ref 62), some (.int x1), some (.int x2), none, none, none]) (st1 := [.ref 1]) (hp1 := (hz F A L)) rfl ?_
    refine w_c rfl rfl (t_kx_sign ?_)
    show wl_E f _ _ mm97.2.2.2.2.2.2.2.2 19 [some (.ref 62), some (.int x1), some (.int x2), none, none, none] [.int (kx_sign (F 1 2) (F 1 3) (A 2))] (hz F A L) _
    generalize hG333 : (kx_sign (F 1 2) (F 1 3) (A 2)) = G333 at hE ⊢
    refine w_n 8 (pc1 := 29) (ls1 := [some (.ref 62), some (.int x1), some (.int x2), some (.int G333), none, none]) (st1 := [.int ((97 + x1) - 1), .int 97, .int G333]) (hp1 := (hz F A L)) rfl ?_
    refine w_c rfl rfl (t_kc_within ?_)
    show wl_E f _ _ mm97.2.2.2.2.2.2.2.2 32 [some (.ref 62), some (.int x1), some (.int x2), some (.int G333), none, none] [.int (kc_within G333 97 ((97 + x1) - 1))] (hz F A L) _
    generalize hG334 : (kc_within G333 97 ((97 + x1) - 1)) = G334 at hE ⊢
    refine w_zeq (p3 := 35) rfl rfl (fun h => ?_) (fun h => ?_)
    · have h2 : G334 = 0 := h
      rw [if_pos h2] at hE
      refine w_n 2 (pc1 := 56) (ls1 := [some (.ref 62), some (.int x1), some (.int x2), some (.int G333), none, none]) (st1 := [.int 40, .int G333]) (hp1 := (hz F A L)) rfl ?_
      refine w_eq (p3 := 59) rfl rfl (fun h => ?_) (fun h => ?_)
      · have h3 : G333 = 40 := h
        rw [if_pos h3] at hE
        refine w_n 2 (pc1 := 71) (ls1 := [some (.ref 62), some (.int x1), some (.int x2), some (.int G333), none, none]) (st1 := [.int 8, .int x2]) (hp1 := (hz F A L)) rfl ?_
        refine w_lt (p3 := 74) rfl rfl (fun h => ?_) (fun h => ?_)
        · have h4 : x2.toInt < 8 := h
          rw [if_pos h4] at hE
          refine w_n 6 (pc1 := 93) (ls1 := [some (.ref 62), some (.int x1), some (.int x2), some (.int G333), none, none]) (st1 := [.int ((F 1 3) + 1), .ref 1]) (hp1 := (hz F A L)) rfl ?_
          refine w_pf (k := 1) (fs := hz_f1 F) (hp1 := (hz (uF F 1 3 ((F 1 3) + 1)) A L)) rfl rfl rfl (hz_p1_3 _) ?_
          refine w_n 5 (pc1 := 101) (ls1 := [some (.ref 62), some (.int x1), some (.int x2), some (.int G333), none, none]) (st1 := [.int (x2 + 1), .int x1, .ref 62]) (hp1 := (hz (uF F 1 3 ((F 1 3) + 1)) A L)) rfl ?_
          refine w_c rfl rfl (hr _ (by omega) ?_)
          show wl_E f _ _ mm97.2.2.2.2.2.2.2.2 104 [some (.ref 62), some (.int x1), some (.int x2), some (.int G333), none, none] [.int (r (F 1 2) ((F 1 3) + 1) (F 1 4) (F 3 0) (A 2) (A 33) x1 (x2 + 1)).1] (hz (uF (uF (uF F 1 3 ((F 1 3) + 1)) 1 3 (r (F 1 2) ((F 1 3) + 1) (F 1 4) (F 3 0) (A 2) (A 33) x1 (x2 + 1)).2.1) 1 4 (r (F 1 2) ((F 1 3) + 1) (F 1 4) (F 3 0) (A 2) (A 33) x1 (x2 + 1)).2.2) A L) _
          generalize hG335 : (r (F 1 2) ((F 1 3) + 1) (F 1 4) (F 3 0) (A 2) (A 33) x1 (x2 + 1)) = G335 at hE ⊢
          refine w_n 6 (pc1 := 111) (ls1 := [some (.ref 62), some (.int x1), some (.int x2), some (.int G333), some (.int G335.1), none]) (st1 := [.int (x2 + 1), .int x1, .ref 62]) (hp1 := (hz (uF (uF (uF F 1 3 ((F 1 3) + 1)) 1 3 G335.2.1) 1 4 G335.2.2) A L)) rfl ?_
          refine w_c rfl rfl (hr _ (by omega) ?_)
          show wl_E f _ _ mm97.2.2.2.2.2.2.2.2 114 [some (.ref 62), some (.int x1), some (.int x2), some (.int G333), some (.int G335.1), none] [.int (r (F 1 2) G335.2.1 G335.2.2 (F 3 0) (A 2) (A 33) x1 (x2 + 1)).1] (hz (uF (uF (uF (uF (uF F 1 3 ((F 1 3) + 1)) 1 3 G335.2.1) 1 4 G335.2.2) 1 3 (r (F 1 2) G335.2.1 G335.2.2 (F 3 0) (A 2) (A 33) x1 (x2 + 1)).2.1) 1 4 (r (F 1 2) G335.2.1 G335.2.2 (F 3 0) (A 2) (A 33) x1 (x2 + 1)).2.2) A L) _
          generalize hG336 : (r (F 1 2) G335.2.1 G335.2.2 (F 3 0) (A 2) (A 33) x1 (x2 + 1)) = G336 at hE ⊢
          refine w_n 4 (pc1 := 122) (ls1 := [some (.ref 62), some (.int x1), some (.int x2), some (.int G333), some (.int G335.1), some (.int G336.1)]) (st1 := [.int 41, .ref 1]) (hp1 := (hz (uF (uF (uF (uF (uF F 1 3 ((F 1 3) + 1)) 1 3 G335.2.1) 1 4 G335.2.2) 1 3 G336.2.1) 1 4 G336.2.2) A L)) rfl ?_
          refine w_c rfl rfl (t_kx_pass ?_)
          show wl_E f _ _ mm97.2.2.2.2.2.2.2.2 125 [some (.ref 62), some (.int x1), some (.int x2), some (.int G333), some (.int G335.1), some (.int G336.1)] [] (hz (uF (uF (uF (uF (uF (uF (uF F 1 3 ((F 1 3) + 1)) 1 3 G335.2.1) 1 4 G335.2.2) 1 3 G336.2.1) 1 4 G336.2.2) 1 3 (kx_pass (F 1 2) G336.2.1 G336.2.2 (A 2) 41).1) 1 4 (kx_pass (F 1 2) G336.2.1 G336.2.2 (A 2) 41).2) A L) _
          generalize hG339 : (kx_pass (F 1 2) G336.2.1 G336.2.2 (A 2) 41) = G339 at hE ⊢
          refine w_n 3 (pc1 := 132) (ls1 := [some (.ref 62), some (.int x1), some (.int x2), some (.int G333), some (.int G335.1), some (.int G336.1)]) (st1 := [.int G339.2]) (hp1 := (hz (uF (uF (uF (uF (uF (uF (uF F 1 3 ((F 1 3) + 1)) 1 3 G335.2.1) 1 4 G335.2.2) 1 3 G336.2.1) 1 4 G336.2.2) 1 3 G339.1) 1 4 G339.2) A L)) rfl ?_
          refine w_zeq (p3 := 135) rfl rfl (fun h => ?_) (fun h => ?_)
          · have h5 : G339.2 = 0 := h
            rw [if_pos h5] at hE
            refine w_n 4 (pc1 := 147) (ls1 := [some (.ref 62), some (.int x1), some (.int x2), some (.int G333), some (.int G335.1), some (.int G336.1)]) (st1 := [.int G336.1, .int G335.1, .ref 30]) (hp1 := (hz (uF (uF (uF (uF (uF (uF (uF F 1 3 ((F 1 3) + 1)) 1 3 G335.2.1) 1 4 G335.2.2) 1 3 G336.2.1) 1 4 G336.2.2) 1 3 G339.1) 1 4 G339.2) A L)) rfl ?_
            refine w_c rfl rfl (t_kv_winnerOf ?_)
            show wl_E f _ _ mm97.2.2.2.2.2.2.2.2 150 [some (.ref 62), some (.int x1), some (.int x2), some (.int G333), some (.int G335.1), some (.int G336.1)] [.int (kv_winnerOf (F 3 0) (A 33) G335.1 G336.1)] (hz (uF (uF (uF (uF (uF (uF (uF F 1 3 ((F 1 3) + 1)) 1 3 G335.2.1) 1 4 G335.2.2) 1 3 G336.2.1) 1 4 G336.2.2) 1 3 G339.1) 1 4 G339.2) A L) _
            generalize hG342 : (kv_winnerOf (F 3 0) (A 33) G335.1 G336.1) = G342 at hE ⊢
            subst T
            exact w_ri rfl (cvQ (funext fun q => funext fun z => if k0 : q = 1 ∧ z = 3 then by obtain ⟨w1, w2⟩ := k0; subst w1; subst w2; exact Eq.trans (b := G339.1) rfl rfl else if k1 : q = 1 ∧ z = 4 then by obtain ⟨w1, w2⟩ := k1; subst w1; subst w2; exact Eq.trans (b := G339.2) rfl rfl else by unfold uF; simp only [nb2 k0, nb2 k1, cond_false]) rfl rfl K)
          · have h5 : ¬ G339.2 = 0 := h
            rw [if_neg h5] at hE
            refine w_n 2 (pc1 := 150) (ls1 := [some (.ref 62), some (.int x1), some (.int x2), some (.int G333), some (.int G335.1), some (.int G336.1)]) (st1 := [.int (-1)]) (hp1 := (hz (uF (uF (uF (uF (uF (uF (uF F 1 3 ((F 1 3) + 1)) 1 3 G335.2.1) 1 4 G335.2.2) 1 3 G336.2.1) 1 4 G336.2.2) 1 3 G339.1) 1 4 G339.2) A L)) rfl ?_
            subst T
            exact w_ri rfl (cvQ (funext fun q => funext fun z => if k0 : q = 1 ∧ z = 3 then by obtain ⟨w1, w2⟩ := k0; subst w1; subst w2; exact Eq.trans (b := G339.1) rfl rfl else if k1 : q = 1 ∧ z = 4 then by obtain ⟨w1, w2⟩ := k1; subst w1; subst w2; exact Eq.trans (b := G339.2) rfl rfl else by unfold uF; simp only [nb2 k0, nb2 k1, cond_false]) rfl rfl K)
        · have h4 : 8 ≤ x2.toInt := h
          rw [if_neg (Int.not_lt.mpr h4)] at hE
          refine w_n 3 (pc1 := 79) (ls1 := [some (.ref 62), some (.int x1), some (.int x2), some (.int G333), none, none]) (st1 := [.int 5, .ref 1]) (hp1 := (hz F A L)) rfl ?_
          refine w_c rfl rfl (t_kx_fail ?_)
          show wl_E f _ _ mm97.2.2.2.2.2.2.2.2 82 [some (.ref 62), some (.int x1), some (.int x2), some (.int G333), none, none] [.int (kx_fail (F 1 3) (F 1 4) 5).1] (hz (uF F 1 4 (kx_fail (F 1 3) (F 1 4) 5).2) A L) _
          generalize hG343 : (kx_fail (F 1 3) (F 1 4) 5) = G343 at hE ⊢
          subst T
          exact w_ri rfl (cvQ (funext fun q => funext fun z => if k0 : q = 1 ∧ z = 3 then by obtain ⟨w1, w2⟩ := k0; subst w1; subst w2; exact Eq.trans (b := (F 1 3)) rfl rfl else if k1 : q = 1 ∧ z = 4 then by obtain ⟨w1, w2⟩ := k1; subst w1; subst w2; exact Eq.trans (b := G343.2) rfl rfl else by unfold uF; simp only [nb2 k0, nb2 k1, cond_false]) rfl rfl K)
      · have h3 : ¬ G333 = 40 := h
        rw [if_neg h3] at hE
        refine w_n 3 (pc1 := 64) (ls1 := [some (.ref 62), some (.int x1), some (.int x2), some (.int G333), none, none]) (st1 := [.int 1, .ref 1]) (hp1 := (hz F A L)) rfl ?_
        refine w_c rfl rfl (t_kx_fail ?_)
        show wl_E f _ _ mm97.2.2.2.2.2.2.2.2 67 [some (.ref 62), some (.int x1), some (.int x2), some (.int G333), none, none] [.int (kx_fail (F 1 3) (F 1 4) 1).1] (hz (uF F 1 4 (kx_fail (F 1 3) (F 1 4) 1).2) A L) _
        generalize hG344 : (kx_fail (F 1 3) (F 1 4) 1) = G344 at hE ⊢
        subst T
        exact w_ri rfl (cvQ (funext fun q => funext fun z => if k0 : q = 1 ∧ z = 3 then by obtain ⟨w1, w2⟩ := k0; subst w1; subst w2; exact Eq.trans (b := (F 1 3)) rfl rfl else if k1 : q = 1 ∧ z = 4 then by obtain ⟨w1, w2⟩ := k1; subst w1; subst w2; exact Eq.trans (b := G344.2) rfl rfl else by unfold uF; simp only [nb2 k0, nb2 k1, cond_false]) rfl rfl K)
    · have h2 : ¬ G334 = 0 := h
      rw [if_neg h2] at hE
      refine w_n 6 (pc1 := 45) (ls1 := [some (.ref 62), some (.int x1), some (.int x2), some (.int G333), none, none]) (st1 := [.int ((F 1 3) + 1), .ref 1]) (hp1 := (hz F A L)) rfl ?_
      refine w_pf (k := 1) (fs := hz_f1 F) (hp1 := (hz (uF F 1 3 ((F 1 3) + 1)) A L)) rfl rfl rfl (hz_p1_3 _) ?_
      refine w_n 3 (pc1 := 52) (ls1 := [some (.ref 62), some (.int x1), some (.int x2), some (.int G333), none, none]) (st1 := [.int (G333 - 97)]) (hp1 := (hz (uF F 1 3 ((F 1 3) + 1)) A L)) rfl ?_
      subst T
      exact w_ri rfl (cvQ (funext fun q => funext fun z => if k0 : q = 1 ∧ z = 3 then by obtain ⟨w1, w2⟩ := k0; subst w1; subst w2; exact Eq.trans (b := ((F 1 3) + 1)) rfl rfl else if k1 : q = 1 ∧ z = 4 then by obtain ⟨w1, w2⟩ := k1; subst w1; subst w2; exact Eq.trans (b := (F 1 4)) rfl rfl else by unfold uF; simp only [nb2 k0, nb2 k1, cond_false]) rfl rfl K)
  · have h1 : ¬ (F 1 4) = 0 := h
    rw [if_neg h1] at hE
    refine w_n 1 (pc1 := 11) (ls1 := [some (.ref 62), some (.int x1), some (.int x2), none, none, none]) (st1 := [.int (-1)]) (hp1 := (hz F A L)) rfl ?_
    subst T
    exact w_ri rfl (cvQ (funext fun q => funext fun z => if k0 : q = 1 ∧ z = 3 then by obtain ⟨w1, w2⟩ := k0; subst w1; subst w2; exact Eq.trans (b := (F 1 3)) rfl rfl else if k1 : q = 1 ∧ z = 4 then by obtain ⟨w1, w2⟩ := k1; subst w1; subst w2; exact Eq.trans (b := (F 1 4)) rfl rfl else by unfold uF; simp only [nb2 k0, nb2 k1, cond_false]) rfl rfl K)
noncomputable def ka_winnerOf : Nat → Int32 → Int32 → Int32 → Int32 → List Int32 → List Int32 → Int32 → Int32 → (Int32 × Int32 × Int32)
  | 0, _, f1_3, f1_4, _, _, _, _, _ => (0, f1_3, f1_4)
  | n + 1, f1_2, f1_3, f1_4, f3_0, a2, a33, x1, x2 => ka_winnerOf_b (ka_winnerOf n) f1_2 f1_3 f1_4 f3_0 a2 a33 x1 x2
theorem t_ka_winnerOf {f : Nat} : ∀ (n : Nat), n ≤ f → ∀ {D : Nat} {F : Nat → Nat → Int32} {A : Nat → List Int32} {L : Nat → List Int64} {Q : Option Value → sm_H → Prop} {x1 : Int32} {x2 : Int32}, D ≤ n → (Q (some (.int ((ka_winnerOf n (F 1 2) (F 1 3) (F 1 4) (F 3 0) (A 2) (A 33) x1 x2).1))) (hz (uF (uF F 1 3 ((ka_winnerOf n (F 1 2) (F 1 3) (F 1 4) (F 3 0) (A 2) (A 33) x1 x2).2.1)) 1 4 ((ka_winnerOf n (F 1 2) (F 1 3) (F 1 4) (F 3 0) (A 2) (A 33) x1 x2).2.2)) A L)) → wl_M f D 97 [.ref 62, .int x1, .int x2] (hz F A L) Q := by
  intro n
  induction n with
  | zero =>
    intro hf D F A L Q x1 x2 hD K
    obtain rfl : D = 0 := by omega
    exact w_m0
  | succ n ih =>
    intro hf D F A L Q x1 x2 hD K
    exact t_ka_winnerOf_b (n := n) (r := ka_winnerOf n) (fun _ => ih (by omega)) hf hD K
noncomputable def ka_readAgenda (f : Nat) (f1_2 : Int32) (f1_3 : Int32) (f1_4 : Int32) (f3_0 : Int32) (a2 : List Int32) (a33 : List Int32) (x1 : Int32) : Int32 × Int32 × Int32 := (if (ka_winnerOf f f1_2 f1_3 f1_4 f3_0 a2 a33 x1 0).2.2 = 0 then (if (kx_sign f1_2 (ka_winnerOf f f1_2 f1_3 f1_4 f3_0 a2 a33 x1 0).2.1 a2) = (-1) then ((ka_winnerOf f f1_2 f1_3 f1_4 f3_0 a2 a33 x1 0).1, (ka_winnerOf f f1_2 f1_3 f1_4 f3_0 a2 a33 x1 0).2.1, (ka_winnerOf f f1_2 f1_3 f1_4 f3_0 a2 a33 x1 0).2.2) else ((ka_winnerOf f f1_2 f1_3 f1_4 f3_0 a2 a33 x1 0).1, (ka_winnerOf f f1_2 f1_3 f1_4 f3_0 a2 a33 x1 0).2.1, (kx_fail (ka_winnerOf f f1_2 f1_3 f1_4 f3_0 a2 a33 x1 0).2.1 (ka_winnerOf f f1_2 f1_3 f1_4 f3_0 a2 a33 x1 0).2.2 1).2)) else ((ka_winnerOf f f1_2 f1_3 f1_4 f3_0 a2 a33 x1 0).1, (ka_winnerOf f f1_2 f1_3 f1_4 f3_0 a2 a33 x1 0).2.1, (ka_winnerOf f f1_2 f1_3 f1_4 f3_0 a2 a33 x1 0).2.2))
theorem t_ka_readAgenda {f D : Nat} {F : Nat → Nat → Int32} {A : Nat → List Int32} {L : Nat → List Int64} {Q : Option Value → sm_H → Prop} {x1 : Int32} (hh0 : D ≤ f) (K : Q (some (.int ((ka_readAgenda f (F 1 2) (F 1 3) (F 1 4) (F 3 0) (A 2) (A 33) x1).1))) (hz (uF (uF F 1 3 ((ka_readAgenda f (F 1 2) (F 1 3) (F 1 4) (F 3 0) (A 2) (A 33) x1).2.1)) 1 4 ((ka_readAgenda f (F 1 2) (F 1 3) (F 1 4) (F 3 0) (A 2) (A 33) x1).2.2)) A L)) : wl_M f D 96 [.ref 62, .int x1] (hz F A L) Q := by
  generalize hT : (ka_readAgenda f (F 1 2) (F 1 3) (F 1 4) (F 3 0) (A 2) (A 33) x1) = T at K
  have hE : T = (if (ka_winnerOf f (F 1 2) (F 1 3) (F 1 4) (F 3 0) (A 2) (A 33) x1 0).2.2 = 0 then (if (kx_sign (F 1 2) (ka_winnerOf f (F 1 2) (F 1 3) (F 1 4) (F 3 0) (A 2) (A 33) x1 0).2.1 (A 2)) = (-1) then ((ka_winnerOf f (F 1 2) (F 1 3) (F 1 4) (F 3 0) (A 2) (A 33) x1 0).1, (ka_winnerOf f (F 1 2) (F 1 3) (F 1 4) (F 3 0) (A 2) (A 33) x1 0).2.1, (ka_winnerOf f (F 1 2) (F 1 3) (F 1 4) (F 3 0) (A 2) (A 33) x1 0).2.2) else ((ka_winnerOf f (F 1 2) (F 1 3) (F 1 4) (F 3 0) (A 2) (A 33) x1 0).1, (ka_winnerOf f (F 1 2) (F 1 3) (F 1 4) (F 3 0) (A 2) (A 33) x1 0).2.1, (kx_fail (ka_winnerOf f (F 1 2) (F 1 3) (F 1 4) (F 3 0) (A 2) (A 33) x1 0).2.1 (ka_winnerOf f (F 1 2) (F 1 3) (F 1 4) (F 3 0) (A 2) (A 33) x1 0).2.2 1).2)) else ((ka_winnerOf f (F 1 2) (F 1 3) (F 1 4) (F 3 0) (A 2) (A 33) x1 0).1, (ka_winnerOf f (F 1 2) (F 1 3) (F 1 4) (F 3 0) (A 2) (A 33) x1 0).2.1, (ka_winnerOf f (F 1 2) (F 1 3) (F 1 4) (F 3 0) (A 2) (A 33) x1 0).2.2)) := hT.symm
  clear hT
  refine w_m (E := mm96) rfl ?_
  show wl_E f f (D - 1) mm96.2.2.2.2.2.2.2.2 0 [some (.ref 62), some (.int x1), none] [] (hz F A L) Q
  refine w_n 3 (pc1 := 3) (ls1 := [some (.ref 62), some (.int x1), none]) (st1 := [.int 0, .int x1, .ref 62]) (hp1 := (hz F A L)) rfl ?_
  refine w_c rfl rfl (t_ka_winnerOf f (Nat.le_refl _) (by omega) ?_)
  show wl_E f _ _ mm96.2.2.2.2.2.2.2.2 6 [some (.ref 62), some (.int x1), none] [.int (ka_winnerOf f (F 1 2) (F 1 3) (F 1 4) (F 3 0) (A 2) (A 33) x1 0).1] (hz (uF (uF F 1 3 (ka_winnerOf f (F 1 2) (F 1 3) (F 1 4) (F 3 0) (A 2) (A 33) x1 0).2.1) 1 4 (ka_winnerOf f (F 1 2) (F 1 3) (F 1 4) (F 3 0) (A 2) (A 33) x1 0).2.2) A L) _
  generalize hG345 : (ka_winnerOf f (F 1 2) (F 1 3) (F 1 4) (F 3 0) (A 2) (A 33) x1 0) = G345 at hE ⊢
  refine w_n 4 (pc1 := 14) (ls1 := [some (.ref 62), some (.int x1), some (.int G345.1)]) (st1 := [.int G345.2.2]) (hp1 := (hz (uF (uF F 1 3 G345.2.1) 1 4 G345.2.2) A L)) rfl ?_
  refine w_zne (p3 := 17) rfl rfl (fun h => ?_) (fun h => ?_)
  · have h1 : ¬ G345.2.2 = 0 := h
    rw [if_neg h1] at hE
    refine w_n 1 (pc1 := 38) (ls1 := [some (.ref 62), some (.int x1), some (.int G345.1)]) (st1 := [.int G345.1]) (hp1 := (hz (uF (uF F 1 3 G345.2.1) 1 4 G345.2.2) A L)) rfl ?_
    subst T
    exact w_ri rfl (cvQ rfl rfl rfl K)
  · have h1 : G345.2.2 = 0 := h
    rw [if_pos h1] at hE
    refine w_n 2 (pc1 := 21) (ls1 := [some (.ref 62), some (.int x1), some (.int G345.1)]) (st1 := [.ref 1]) (hp1 := (hz (uF (uF F 1 3 G345.2.1) 1 4 G345.2.2) A L)) rfl ?_
    refine w_c rfl rfl (t_kx_sign ?_)
    show wl_E f _ _ mm96.2.2.2.2.2.2.2.2 24 [some (.ref 62), some (.int x1), some (.int G345.1)] [.int (kx_sign (F 1 2) G345.2.1 (A 2))] (hz (uF (uF F 1 3 G345.2.1) 1 4 G345.2.2) A L) _
    generalize hG346 : (kx_sign (F 1 2) G345.2.1 (A 2)) = G346 at hE ⊢
    refine w_n 1 (pc1 := 25) (ls1 := [some (.ref 62), some (.int x1), some (.int G345.1)]) (st1 := [.int (-1), .int G346]) (hp1 := (hz (uF (uF F 1 3 G345.2.1) 1 4 G345.2.2) A L)) rfl ?_
    refine w_eq (p3 := 28) rfl rfl (fun h => ?_) (fun h => ?_)
    · have h2 : G346 = (-1) := h
      rw [if_pos h2] at hE
      refine w_n 1 (pc1 := 38) (ls1 := [some (.ref 62), some (.int x1), some (.int G345.1)]) (st1 := [.int G345.1]) (hp1 := (hz (uF (uF F 1 3 G345.2.1) 1 4 G345.2.2) A L)) rfl ?_
      subst T
      exact w_ri rfl (cvQ rfl rfl rfl K)
    · have h2 : ¬ G346 = (-1) := h
      rw [if_neg h2] at hE
      refine w_n 3 (pc1 := 33) (ls1 := [some (.ref 62), some (.int x1), some (.int G345.1)]) (st1 := [.int 1, .ref 1]) (hp1 := (hz (uF (uF F 1 3 G345.2.1) 1 4 G345.2.2) A L)) rfl ?_
      refine w_c rfl rfl (t_kx_fail ?_)
      show wl_E f _ _ mm96.2.2.2.2.2.2.2.2 36 [some (.ref 62), some (.int x1), some (.int G345.1)] [.int (kx_fail G345.2.1 G345.2.2 1).1] (hz (uF (uF (uF F 1 3 G345.2.1) 1 4 G345.2.2) 1 4 (kx_fail G345.2.1 G345.2.2 1).2) A L) _
      generalize hG347 : (kx_fail G345.2.1 G345.2.2 1) = G347 at hE ⊢
      refine w_n 2 (pc1 := 38) (ls1 := [some (.ref 62), some (.int x1), some (.int G345.1)]) (st1 := [.int G345.1]) (hp1 := (hz (uF (uF (uF F 1 3 G345.2.1) 1 4 G345.2.2) 1 4 G347.2) A L)) rfl ?_
      subst T
      exact w_ri rfl (cvQ (funext fun q => funext fun z => if k0 : q = 1 ∧ z = 3 then by obtain ⟨w1, w2⟩ := k0; subst w1; subst w2; exact Eq.trans (b := G345.2.1) rfl rfl else if k1 : q = 1 ∧ z = 4 then by obtain ⟨w1, w2⟩ := k1; subst w1; subst w2; exact Eq.trans (b := G347.2) rfl rfl else by unfold uF; simp only [nb2 k0, nb2 k1, cond_false]) rfl rfl K)
noncomputable def kc_agenda (f : Nat) (f1_1 : Int32) (f1_2 : Int32) (f1_3 : Int32) (f1_4 : Int32) (f3_0 : Int32) (f3_1 : Int32) (a2 : List Int32) (a6 : List Int32) (a32 : List Int32) (a33 : List Int32) (l11 : List Int64) (x1 : Int32) : Int32 × Int32 × Int32 × Int32 × Int32 × List Int32 × List Int32 := (if (kx_has f1_1 x1 1 60) = 0 then ((-1), f1_1, f1_2, f1_3, f1_4, a32, a33) else (if (ka_readAgenda f (kx_open x1).1 (kx_open x1).2.1 (kx_open x1).2.2 f3_0 a2 (kv_weighPairs f3_0 f3_1 a6 a32 a33 l11).2 f3_0).2.2 = 0 then ((ka_readAgenda f (kx_open x1).1 (kx_open x1).2.1 (kx_open x1).2.2 f3_0 a2 (kv_weighPairs f3_0 f3_1 a6 a32 a33 l11).2 f3_0).1, 0, (kx_open x1).1, (ka_readAgenda f (kx_open x1).1 (kx_open x1).2.1 (kx_open x1).2.2 f3_0 a2 (kv_weighPairs f3_0 f3_1 a6 a32 a33 l11).2 f3_0).2.1, (ka_readAgenda f (kx_open x1).1 (kx_open x1).2.1 (kx_open x1).2.2 f3_0 a2 (kv_weighPairs f3_0 f3_1 a6 a32 a33 l11).2 f3_0).2.2, (kv_weighPairs f3_0 f3_1 a6 a32 a33 l11).1, (kv_weighPairs f3_0 f3_1 a6 a32 a33 l11).2) else ((ka_readAgenda f (kx_open x1).1 (kx_open x1).2.1 (kx_open x1).2.2 f3_0 a2 (kv_weighPairs f3_0 f3_1 a6 a32 a33 l11).2 f3_0).2.2, 0, (kx_open x1).1, (ka_readAgenda f (kx_open x1).1 (kx_open x1).2.1 (kx_open x1).2.2 f3_0 a2 (kv_weighPairs f3_0 f3_1 a6 a32 a33 l11).2 f3_0).2.1, (ka_readAgenda f (kx_open x1).1 (kx_open x1).2.1 (kx_open x1).2.2 f3_0 a2 (kv_weighPairs f3_0 f3_1 a6 a32 a33 l11).2 f3_0).2.2, (kv_weighPairs f3_0 f3_1 a6 a32 a33 l11).1, (kv_weighPairs f3_0 f3_1 a6 a32 a33 l11).2)))
theorem t_kc_agenda {f D : Nat} {F : Nat → Nat → Int32} {A : Nat → List Int32} {L : Nat → List Int64} {Q : Option Value → sm_H → Prop} {x1 : Int32} (hh0 : D ≤ f) (K : Q (some (.int ((kc_agenda f (F 1 1) (F 1 2) (F 1 3) (F 1 4) (F 3 0) (F 3 1) (A 2) (A 6) (A 32) (A 33) (L 11) x1).1))) (hz (uF (uF (uF (uF F 1 1 ((kc_agenda f (F 1 1) (F 1 2) (F 1 3) (F 1 4) (F 3 0) (F 3 1) (A 2) (A 6) (A 32) (A 33) (L 11) x1).2.1)) 1 2 ((kc_agenda f (F 1 1) (F 1 2) (F 1 3) (F 1 4) (F 3 0) (F 3 1) (A 2) (A 6) (A 32) (A 33) (L 11) x1).2.2.1)) 1 3 ((kc_agenda f (F 1 1) (F 1 2) (F 1 3) (F 1 4) (F 3 0) (F 3 1) (A 2) (A 6) (A 32) (A 33) (L 11) x1).2.2.2.1)) 1 4 ((kc_agenda f (F 1 1) (F 1 2) (F 1 3) (F 1 4) (F 3 0) (F 3 1) (A 2) (A 6) (A 32) (A 33) (L 11) x1).2.2.2.2.1)) (uA (uA A 32 ((kc_agenda f (F 1 1) (F 1 2) (F 1 3) (F 1 4) (F 3 0) (F 3 1) (A 2) (A 6) (A 32) (A 33) (L 11) x1).2.2.2.2.2.1)) 33 ((kc_agenda f (F 1 1) (F 1 2) (F 1 3) (F 1 4) (F 3 0) (F 3 1) (A 2) (A 6) (A 32) (A 33) (L 11) x1).2.2.2.2.2.2)) L)) : wl_M f D 95 [.ref 0, .int x1] (hz F A L) Q := by
  generalize hT : (kc_agenda f (F 1 1) (F 1 2) (F 1 3) (F 1 4) (F 3 0) (F 3 1) (A 2) (A 6) (A 32) (A 33) (L 11) x1) = T at K
  have hE : T = (if (kx_has (F 1 1) x1 1 60) = 0 then ((-1), (F 1 1), (F 1 2), (F 1 3), (F 1 4), (A 32), (A 33)) else (if (ka_readAgenda f (kx_open x1).1 (kx_open x1).2.1 (kx_open x1).2.2 (F 3 0) (A 2) (kv_weighPairs (F 3 0) (F 3 1) (A 6) (A 32) (A 33) (L 11)).2 (F 3 0)).2.2 = 0 then ((ka_readAgenda f (kx_open x1).1 (kx_open x1).2.1 (kx_open x1).2.2 (F 3 0) (A 2) (kv_weighPairs (F 3 0) (F 3 1) (A 6) (A 32) (A 33) (L 11)).2 (F 3 0)).1, 0, (kx_open x1).1, (ka_readAgenda f (kx_open x1).1 (kx_open x1).2.1 (kx_open x1).2.2 (F 3 0) (A 2) (kv_weighPairs (F 3 0) (F 3 1) (A 6) (A 32) (A 33) (L 11)).2 (F 3 0)).2.1, (ka_readAgenda f (kx_open x1).1 (kx_open x1).2.1 (kx_open x1).2.2 (F 3 0) (A 2) (kv_weighPairs (F 3 0) (F 3 1) (A 6) (A 32) (A 33) (L 11)).2 (F 3 0)).2.2, (kv_weighPairs (F 3 0) (F 3 1) (A 6) (A 32) (A 33) (L 11)).1, (kv_weighPairs (F 3 0) (F 3 1) (A 6) (A 32) (A 33) (L 11)).2) else ((ka_readAgenda f (kx_open x1).1 (kx_open x1).2.1 (kx_open x1).2.2 (F 3 0) (A 2) (kv_weighPairs (F 3 0) (F 3 1) (A 6) (A 32) (A 33) (L 11)).2 (F 3 0)).2.2, 0, (kx_open x1).1, (ka_readAgenda f (kx_open x1).1 (kx_open x1).2.1 (kx_open x1).2.2 (F 3 0) (A 2) (kv_weighPairs (F 3 0) (F 3 1) (A 6) (A 32) (A 33) (L 11)).2 (F 3 0)).2.1, (ka_readAgenda f (kx_open x1).1 (kx_open x1).2.1 (kx_open x1).2.2 (F 3 0) (A 2) (kv_weighPairs (F 3 0) (F 3 1) (A 6) (A 32) (A 33) (L 11)).2 (F 3 0)).2.2, (kv_weighPairs (F 3 0) (F 3 1) (A 6) (A 32) (A 33) (L 11)).1, (kv_weighPairs (F 3 0) (F 3 1) (A 6) (A 32) (A 33) (L 11)).2))) := hT.symm
  clear hT
  refine w_m (E := mm95) rfl ?_
  show wl_E f f (D - 1) mm95.2.2.2.2.2.2.2.2 0 [some (.ref 0), some (.int x1), none] [] (hz F A L) Q
  refine w_n 5 (pc1 := 8) (ls1 := [some (.ref 0), some (.int x1), none]) (st1 := [.int 60, .int 1, .int x1, .ref 1]) (hp1 := (hz F A L)) rfl ?_
  refine w_c rfl rfl (t_kx_has ?_)
  show wl_E f _ _ mm95.2.2.2.2.2.2.2.2 11 [some (.ref 0), some (.int x1), none] [.int (kx_has (F 1 1) x1 1 60)] (hz F A L) _
  generalize hG325 : (kx_has (F 1 1) x1 1 60) = G325 at hE ⊢
  refine w_zne (p3 := 14) rfl rfl (fun h => ?_) (fun h => ?_)
  · have h1 : ¬ G325 = 0 := h
    rw [if_neg h1] at hE
    refine w_n 3 (pc1 := 21) (ls1 := [some (.ref 0), some (.int x1), none]) (st1 := [.int x1, .ref 1]) (hp1 := (hz F A L)) rfl ?_
    refine w_c rfl rfl (t_kx_open ?_)
    show wl_E f _ _ mm95.2.2.2.2.2.2.2.2 24 [some (.ref 0), some (.int x1), none] [] (hz (uF (uF (uF F 1 2 (kx_open x1).1) 1 3 (kx_open x1).2.1) 1 4 (kx_open x1).2.2) A L) _
    generalize hG326 : (kx_open x1) = G326 at hE ⊢
    refine w_n 2 (pc1 := 28) (ls1 := [some (.ref 0), some (.int x1), none]) (st1 := [.ref 30]) (hp1 := (hz (uF (uF (uF F 1 2 G326.1) 1 3 G326.2.1) 1 4 G326.2.2) A L)) rfl ?_
    refine w_c rfl rfl (t_kv_weighPairs ?_)
    show wl_E f _ _ mm95.2.2.2.2.2.2.2.2 31 [some (.ref 0), some (.int x1), none] [] (hz (uF (uF (uF F 1 2 G326.1) 1 3 G326.2.1) 1 4 G326.2.2) (uA (uA A 32 (kv_weighPairs (F 3 0) (F 3 1) (A 6) (A 32) (A 33) (L 11)).1) 33 (kv_weighPairs (F 3 0) (F 3 1) (A 6) (A 32) (A 33) (L 11)).2) L) _
    generalize hG332 : (kv_weighPairs (F 3 0) (F 3 1) (A 6) (A 32) (A 33) (L 11)) = G332 at hE ⊢
    refine w_n 5 (pc1 := 42) (ls1 := [some (.ref 0), some (.int x1), none]) (st1 := [.int (F 3 0), .ref 62]) (hp1 := (hz (uF (uF (uF F 1 2 G326.1) 1 3 G326.2.1) 1 4 G326.2.2) (uA (uA A 32 G332.1) 33 G332.2) L)) rfl ?_
    refine w_c rfl rfl (t_ka_readAgenda (by omega) ?_)
    show wl_E f _ _ mm95.2.2.2.2.2.2.2.2 45 [some (.ref 0), some (.int x1), none] [.int (ka_readAgenda f G326.1 G326.2.1 G326.2.2 (F 3 0) (A 2) G332.2 (F 3 0)).1] (hz (uF (uF (uF (uF (uF F 1 2 G326.1) 1 3 G326.2.1) 1 4 G326.2.2) 1 3 (ka_readAgenda f G326.1 G326.2.1 G326.2.2 (F 3 0) (A 2) G332.2 (F 3 0)).2.1) 1 4 (ka_readAgenda f G326.1 G326.2.1 G326.2.2 (F 3 0) (A 2) G332.2 (F 3 0)).2.2) (uA (uA A 32 G332.1) 33 G332.2) L) _
    generalize hG348 : (ka_readAgenda f G326.1 G326.2.1 G326.2.2 (F 3 0) (A 2) G332.2 (F 3 0)) = G348 at hE ⊢
    refine w_n 4 (pc1 := 51) (ls1 := [some (.ref 0), some (.int x1), some (.int G348.1)]) (st1 := [.int 0, .ref 1]) (hp1 := (hz (uF (uF (uF (uF (uF F 1 2 G326.1) 1 3 G326.2.1) 1 4 G326.2.2) 1 3 G348.2.1) 1 4 G348.2.2) (uA (uA A 32 G332.1) 33 G332.2) L)) rfl ?_
    refine w_pf (k := 1) (fs := hz_f1 (uF (uF (uF (uF (uF F 1 2 G326.1) 1 3 G326.2.1) 1 4 G326.2.2) 1 3 G348.2.1) 1 4 G348.2.2)) (hp1 := (hz (uF (uF (uF (uF (uF (uF F 1 2 G326.1) 1 3 G326.2.1) 1 4 G326.2.2) 1 3 G348.2.1) 1 4 G348.2.2) 1 1 0) (uA (uA A 32 G332.1) 33 G332.2) L)) rfl rfl rfl (hz_p1_1 _) ?_
    refine w_n 3 (pc1 := 61) (ls1 := [some (.ref 0), some (.int x1), some (.int G348.1)]) (st1 := [.int G348.2.2]) (hp1 := (hz (uF (uF (uF (uF (uF (uF F 1 2 G326.1) 1 3 G326.2.1) 1 4 G326.2.2) 1 3 G348.2.1) 1 4 G348.2.2) 1 1 0) (uA (uA A 32 G332.1) 33 G332.2) L)) rfl ?_
    refine w_zeq (p3 := 64) rfl rfl (fun h => ?_) (fun h => ?_)
    · have h2 : G348.2.2 = 0 := h
      rw [if_pos h2] at hE
      refine w_n 1 (pc1 := 75) (ls1 := [some (.ref 0), some (.int x1), some (.int G348.1)]) (st1 := [.int G348.1]) (hp1 := (hz (uF (uF (uF (uF (uF (uF F 1 2 G326.1) 1 3 G326.2.1) 1 4 G326.2.2) 1 3 G348.2.1) 1 4 G348.2.2) 1 1 0) (uA (uA A 32 G332.1) 33 G332.2) L)) rfl ?_
      subst T
      exact w_ri rfl (cvQ (funext fun q => funext fun z => if k0 : q = 1 ∧ z = 1 then by obtain ⟨w1, w2⟩ := k0; subst w1; subst w2; exact Eq.trans (b := 0) rfl rfl else if k1 : q = 1 ∧ z = 2 then by obtain ⟨w1, w2⟩ := k1; subst w1; subst w2; exact Eq.trans (b := G326.1) rfl rfl else if k2 : q = 1 ∧ z = 3 then by obtain ⟨w1, w2⟩ := k2; subst w1; subst w2; exact Eq.trans (b := G348.2.1) rfl rfl else if k3 : q = 1 ∧ z = 4 then by obtain ⟨w1, w2⟩ := k3; subst w1; subst w2; exact Eq.trans (b := G348.2.2) rfl rfl else by unfold uF; simp only [nb2 k0, nb2 k1, nb2 k2, nb2 k3, cond_false]) rfl rfl K)
    · have h2 : ¬ G348.2.2 = 0 := h
      rw [if_neg h2] at hE
      refine w_n 4 (pc1 := 75) (ls1 := [some (.ref 0), some (.int x1), some (.int G348.1)]) (st1 := [.int G348.2.2]) (hp1 := (hz (uF (uF (uF (uF (uF (uF F 1 2 G326.1) 1 3 G326.2.1) 1 4 G326.2.2) 1 3 G348.2.1) 1 4 G348.2.2) 1 1 0) (uA (uA A 32 G332.1) 33 G332.2) L)) rfl ?_
      subst T
      exact w_ri rfl (cvQ (funext fun q => funext fun z => if k0 : q = 1 ∧ z = 1 then by obtain ⟨w1, w2⟩ := k0; subst w1; subst w2; exact Eq.trans (b := 0) rfl rfl else if k1 : q = 1 ∧ z = 2 then by obtain ⟨w1, w2⟩ := k1; subst w1; subst w2; exact Eq.trans (b := G326.1) rfl rfl else if k2 : q = 1 ∧ z = 3 then by obtain ⟨w1, w2⟩ := k2; subst w1; subst w2; exact Eq.trans (b := G348.2.1) rfl rfl else if k3 : q = 1 ∧ z = 4 then by obtain ⟨w1, w2⟩ := k3; subst w1; subst w2; exact Eq.trans (b := G348.2.2) rfl rfl else by unfold uF; simp only [nb2 k0, nb2 k1, nb2 k2, nb2 k3, cond_false]) rfl rfl K)
  · have h1 : G325 = 0 := h
    rw [if_pos h1] at hE
    refine w_n 1 (pc1 := 15) (ls1 := [some (.ref 0), some (.int x1), none]) (st1 := [.int (-1)]) (hp1 := (hz F A L)) rfl ?_
    subst T
    exact w_ri rfl (cvQ (funext fun q => funext fun z => if k0 : q = 1 ∧ z = 1 then by obtain ⟨w1, w2⟩ := k0; subst w1; subst w2; exact Eq.trans (b := (F 1 1)) rfl rfl else if k1 : q = 1 ∧ z = 2 then by obtain ⟨w1, w2⟩ := k1; subst w1; subst w2; exact Eq.trans (b := (F 1 2)) rfl rfl else if k2 : q = 1 ∧ z = 3 then by obtain ⟨w1, w2⟩ := k2; subst w1; subst w2; exact Eq.trans (b := (F 1 3)) rfl rfl else if k3 : q = 1 ∧ z = 4 then by obtain ⟨w1, w2⟩ := k3; subst w1; subst w2; exact Eq.trans (b := (F 1 4)) rfl rfl else by unfold uF; simp only [nb2 k0, nb2 k1, nb2 k2, nb2 k3, cond_false]) (funext fun q => if k0 : q = 32 then by subst k0; exact Eq.trans (b := (A 32)) rfl rfl else if k1 : q = 33 then by subst k1; exact Eq.trans (b := (A 33)) rfl rfl else by unfold uA; simp only [nb1 k0, nb1 k1, cond_false]) rfl K)
noncomputable def km_beats (a68 : List Int32) (x1 : Int32) (x2 : Int32) : Int32 := (if (km_pairOf a68 x2 x1).toInt < (km_pairOf a68 x1 x2).toInt then 1 else 0)
theorem t_km_beats {f D : Nat} {F : Nat → Nat → Int32} {A : Nat → List Int32} {L : Nat → List Int64} {Q : Option Value → sm_H → Prop} {x1 : Int32} {x2 : Int32} (K : Q (some (.int (km_beats (A 68) x1 x2))) (hz F A L)) : wl_M f D 213 [.ref 67, .int x1, .int x2] (hz F A L) Q := by
  generalize hT : (km_beats (A 68) x1 x2) = T at K
  have hE : T = (if (km_pairOf (A 68) x2 x1).toInt < (km_pairOf (A 68) x1 x2).toInt then 1 else 0) := hT.symm
  clear hT
  refine w_m (E := mm213) rfl ?_
  show wl_E f f (D - 1) mm213.2.2.2.2.2.2.2.2 0 [some (.ref 67), some (.int x1), some (.int x2)] [] (hz F A L) Q
  refine w_n 3 (pc1 := 3) (ls1 := [some (.ref 67), some (.int x1), some (.int x2)]) (st1 := [.int x2, .int x1, .ref 67]) (hp1 := (hz F A L)) rfl ?_
  refine w_c rfl rfl (t_km_pairOf ?_)
  show wl_E f _ _ mm213.2.2.2.2.2.2.2.2 6 [some (.ref 67), some (.int x1), some (.int x2)] [.int (km_pairOf (A 68) x1 x2)] (hz F A L) _
  generalize hG353 : (km_pairOf (A 68) x1 x2) = G353 at hE ⊢
  refine w_n 3 (pc1 := 9) (ls1 := [some (.ref 67), some (.int x1), some (.int x2)]) (st1 := [.int x1, .int x2, .ref 67, .int G353]) (hp1 := (hz F A L)) rfl ?_
  refine w_c rfl rfl (t_km_pairOf ?_)
  show wl_E f _ _ mm213.2.2.2.2.2.2.2.2 12 [some (.ref 67), some (.int x1), some (.int x2)] [.int (km_pairOf (A 68) x2 x1), .int G353] (hz F A L) _
  generalize hG354 : (km_pairOf (A 68) x2 x1) = G354 at hE ⊢
  refine w_le (p3 := 15) rfl rfl (fun h => ?_) (fun h => ?_)
  · have h1 : G353.toInt ≤ G354.toInt := h
    rw [if_neg (Int.not_lt.mpr h1)] at hE
    refine w_n 1 (pc1 := 20) (ls1 := [some (.ref 67), some (.int x1), some (.int x2)]) (st1 := [.int 0]) (hp1 := (hz F A L)) rfl ?_
    subst T
    exact w_ri rfl (cvQ rfl rfl rfl K)
  · have h1 : G354.toInt < G353.toInt := h
    rw [if_pos h1] at hE
    refine w_n 2 (pc1 := 20) (ls1 := [some (.ref 67), some (.int x1), some (.int x2)]) (st1 := [.int 1]) (hp1 := (hz F A L)) rfl ?_
    subst T
    exact w_ri rfl (cvQ rfl rfl rfl K)
noncomputable def km_winsOf (a68 : List Int32) (x1 : Int32) (x2 : Int32) : Int32 := (if (km_beats a68 x2 x1) = 0 then x1 else x2)
theorem t_km_winsOf {f D : Nat} {F : Nat → Nat → Int32} {A : Nat → List Int32} {L : Nat → List Int64} {Q : Option Value → sm_H → Prop} {x1 : Int32} {x2 : Int32} (K : Q (some (.int (km_winsOf (A 68) x1 x2))) (hz F A L)) : wl_M f D 222 [.ref 67, .int x1, .int x2] (hz F A L) Q := by
  generalize hT : (km_winsOf (A 68) x1 x2) = T at K
  have hE : T = (if (km_beats (A 68) x2 x1) = 0 then x1 else x2) := hT.symm
  clear hT
  refine w_m (E := mm222) rfl ?_
  show wl_E f f (D - 1) mm222.2.2.2.2.2.2.2.2 0 [some (.ref 67), some (.int x1), some (.int x2)] [] (hz F A L) Q
  refine w_n 3 (pc1 := 3) (ls1 := [some (.ref 67), some (.int x1), some (.int x2)]) (st1 := [.int x1, .int x2, .ref 67]) (hp1 := (hz F A L)) rfl ?_
  refine w_c rfl rfl (t_km_beats ?_)
  show wl_E f _ _ mm222.2.2.2.2.2.2.2.2 6 [some (.ref 67), some (.int x1), some (.int x2)] [.int (km_beats (A 68) x2 x1)] (hz F A L) _
  generalize hG355 : (km_beats (A 68) x2 x1) = G355 at hE ⊢
  refine w_zeq (p3 := 9) rfl rfl (fun h => ?_) (fun h => ?_)
  · have h1 : G355 = 0 := h
    rw [if_pos h1] at hE
    refine w_n 1 (pc1 := 14) (ls1 := [some (.ref 67), some (.int x1), some (.int x2)]) (st1 := [.int x1]) (hp1 := (hz F A L)) rfl ?_
    subst T
    exact w_ri rfl (cvQ rfl rfl rfl K)
  · have h1 : ¬ G355 = 0 := h
    rw [if_neg h1] at hE
    refine w_n 2 (pc1 := 14) (ls1 := [some (.ref 67), some (.int x1), some (.int x2)]) (st1 := [.int x2]) (hp1 := (hz F A L)) rfl ?_
    subst T
    exact w_ri rfl (cvQ rfl rfl rfl K)
noncomputable def km_agenda_114 (f67_8 : Int32) (f67_10 : Int32) (a68 : List Int32) (a71 : List Int32) (a91 : List Int32)  : Nat → Int32 → Int32 → Int32 → Sum (Int32 × Int32 × Int32 × Int32 × Int32 × List Int32) (Int32 × Int32 × Int32)
  | 0, y2, y3, f67_9 => (Sum.inr (y2, y3, f67_9))
  | m + 1, y2, y3, f67_9 => (if (a91.getD (y2 - 1).toInt.toNat 0) = (-1) then (Sum.inr (y2, y3, f67_9)) else (if (km_here f67_9 f67_10 a71) = 41 then (km_agenda_114 f67_8 f67_10 a68 a71 a91 m (y2 - 1) (km_winsOf a68 (a91.getD (y2 - 1).toInt.toNat 0) y3) (f67_9 + 1)) else (Sum.inl ((km_wrongOf f67_9 1).1, f67_8, f67_9, f67_10, (km_wrongOf f67_9 1).2, a91))))
theorem t_km_agenda_114 {f : Nat} {Q : Option Value → sm_H → Prop} : ∀ (m : Nat) {B D : Nat} {F : Nat → Nat → Int32} {A : Nat → List Int32} {L : Nat → List Int64} {x1 : Int32} {y2 : Int32} {y3 : Int32}, m = (y2.toInt - 0).toNat → (∀ rr : Int32 × Int32 × Int32 × Int32 × Int32 × List Int32, (km_agenda_114 (F 67 8) (F 67 10) (A 68) (A 71) (A 91) m y2 y3 (F 67 9)) = Sum.inl rr → Q (some (.int rr.1)) (hz (uF (uF (uF (uF F 67 8 rr.2.1) 67 9 rr.2.2.1) 67 10 rr.2.2.2.1) 67 11 rr.2.2.2.2.1) (uA A 91 rr.2.2.2.2.2) L)) → (∀ ss : Int32 × Int32 × Int32, (km_agenda_114 (F 67 8) (F 67 10) (A 68) (A 71) (A 91) m y2 y3 (F 67 9)) = Sum.inr ss → wl_E f B D mm221.2.2.2.2.2.2.2.2 174 [some (.ref 67), some (.int x1), some (.int ss.1), some (.int ss.2.1)] [] (hz (uF F 67 9 ss.2.2) A L) Q) → wl_E f B D mm221.2.2.2.2.2.2.2.2 114 [some (.ref 67), some (.int x1), some (.int y2), some (.int y3)] [] (hz F A L) Q := by
  intro m
  induction m with
  | zero =>
    intro B D F A L x1 y2 y3 hm K1 K2
    generalize hT : (km_agenda_114 (F 67 8) (F 67 10) (A 68) (A 71) (A 91) 0 y2 y3 (F 67 9)) = T at K1 K2
    have hE : T = (Sum.inr (y2, y3, (F 67 9))) := hT.symm
    clear hT
    refine w_n 1 (pc1 := 115) (ls1 := [some (.ref 67), some (.int x1), some (.int y2), some (.int y3)]) (st1 := [.int y2]) (hp1 := (hz F A L)) rfl ?_
    refine w_zle (p3 := 118) rfl rfl (fun hb => ?_) (fun h => False.elim (by have h : 0 < y2.toInt := h; omega))
    subst T
    exact cvE (funext fun q => funext fun z => if k0 : q = 67 ∧ z = 9 then by obtain ⟨w1, w2⟩ := k0; subst w1; subst w2; exact Eq.trans (b := (F 67 9)) rfl rfl else by unfold uF; simp only [nb2 k0, cond_false]) rfl rfl (K2 _ rfl)
  | succ m ih =>
    intro B D F A L x1 y2 y3 hm K1 K2
    generalize hT : (km_agenda_114 (F 67 8) (F 67 10) (A 68) (A 71) (A 91) (m + 1) y2 y3 (F 67 9)) = T at K1 K2
    have hE : T = (if ((A 91).getD (y2 - 1).toInt.toNat 0) = (-1) then (Sum.inr (y2, y3, (F 67 9))) else (if (km_here (F 67 9) (F 67 10) (A 71)) = 41 then (km_agenda_114 (F 67 8) (F 67 10) (A 68) (A 71) (A 91) m (y2 - 1) (km_winsOf (A 68) ((A 91).getD (y2 - 1).toInt.toNat 0) y3) ((F 67 9) + 1)) else (Sum.inl ((km_wrongOf (F 67 9) 1).1, (F 67 8), (F 67 9), (F 67 10), (km_wrongOf (F 67 9) 1).2, (A 91))))) := hT.symm
    clear hT
    refine w_n 1 (pc1 := 115) (ls1 := [some (.ref 67), some (.int x1), some (.int y2), some (.int y3)]) (st1 := [.int y2]) (hp1 := (hz F A L)) rfl ?_
    refine w_zle (p3 := 118) rfl rfl (fun h => False.elim (by have h : y2.toInt ≤ 0 := h; omega)) (fun hb => ?_)
    refine w_n 5 (pc1 := 125) (ls1 := [some (.ref 67), some (.int x1), some (.int y2), some (.int y3)]) (st1 := [.int (y2 - 1), .ref 91]) (hp1 := (hz F A L)) rfl ?_
    refine w_al (k := 91) (l := (A 91)) rfl rfl rfl (fun _ => ?_)
    refine w_n 1 (pc1 := 127) (ls1 := [some (.ref 67), some (.int x1), some (.int y2), some (.int y3)]) (st1 := [.int (-1), .int ((A 91).getD (y2 - 1).toInt.toNat 0)]) (hp1 := (hz F A L)) rfl ?_
    refine w_eq (p3 := 130) rfl rfl (fun h => ?_) (fun h => ?_)
    · have h1 : ((A 91).getD (y2 - 1).toInt.toNat 0) = (-1) := h
      rw [if_pos h1] at hE
      subst T
      exact cvE (funext fun q => funext fun z => if k0 : q = 67 ∧ z = 9 then by obtain ⟨w1, w2⟩ := k0; subst w1; subst w2; exact Eq.trans (b := (F 67 9)) rfl rfl else by unfold uF; simp only [nb2 k0, cond_false]) rfl rfl (K2 _ rfl)
    · have h1 : ¬ ((A 91).getD (y2 - 1).toInt.toNat 0) = (-1) := h
      rw [if_neg h1] at hE
      refine w_n 1 (pc1 := 131) (ls1 := [some (.ref 67), some (.int x1), some (.int y2), some (.int y3)]) (st1 := [.ref 67]) (hp1 := (hz F A L)) rfl ?_
      refine w_c rfl rfl (t_km_here ?_)
      show wl_E f _ _ mm221.2.2.2.2.2.2.2.2 134 [some (.ref 67), some (.int x1), some (.int y2), some (.int y3)] [.int (km_here (F 67 9) (F 67 10) (A 71))] (hz F A L) _
      generalize hG352 : (km_here (F 67 9) (F 67 10) (A 71)) = G352 at hE ⊢
      refine w_n 1 (pc1 := 136) (ls1 := [some (.ref 67), some (.int x1), some (.int y2), some (.int y3)]) (st1 := [.int 41, .int G352]) (hp1 := (hz F A L)) rfl ?_
      refine w_eq (p3 := 139) rfl rfl (fun h => ?_) (fun h => ?_)
      · have h2 : G352 = 41 := h
        rw [if_pos h2] at hE
        refine w_n 5 (pc1 := 152) (ls1 := [some (.ref 67), some (.int x1), some (.int y2), some (.int y3)]) (st1 := [.int ((F 67 9) + 1), .ref 67]) (hp1 := (hz F A L)) rfl ?_
        refine w_pf (k := 67) (fs := hz_f67 F) (hp1 := (hz (uF F 67 9 ((F 67 9) + 1)) A L)) rfl rfl rfl (hz_p67_9 _) ?_
        refine w_n 8 (pc1 := 165) (ls1 := [some (.ref 67), some (.int x1), some (.int (y2 - 1)), some (.int y3)]) (st1 := [.int (y2 - 1), .ref 91, .ref 67]) (hp1 := (hz (uF F 67 9 ((F 67 9) + 1)) A L)) rfl ?_
        refine w_al (k := 91) (l := (A 91)) rfl rfl rfl (fun _ => ?_)
        refine w_n 1 (pc1 := 167) (ls1 := [some (.ref 67), some (.int x1), some (.int (y2 - 1)), some (.int y3)]) (st1 := [.int y3, .int ((A 91).getD (y2 - 1).toInt.toNat 0), .ref 67]) (hp1 := (hz (uF F 67 9 ((F 67 9) + 1)) A L)) rfl ?_
        refine w_c rfl rfl (t_km_winsOf ?_)
        show wl_E f _ _ mm221.2.2.2.2.2.2.2.2 170 [some (.ref 67), some (.int x1), some (.int (y2 - 1)), some (.int y3)] [.int (km_winsOf (A 68) ((A 91).getD (y2 - 1).toInt.toNat 0) y3)] (hz (uF F 67 9 ((F 67 9) + 1)) A L) _
        generalize hG356 : (km_winsOf (A 68) ((A 91).getD (y2 - 1).toInt.toNat 0) y3) = G356 at hE ⊢
        refine w_n 2 (pc1 := 114) (ls1 := [some (.ref 67), some (.int x1), some (.int (y2 - 1)), some (.int G356)]) (st1 := []) (hp1 := (hz (uF F 67 9 ((F 67 9) + 1)) A L)) rfl ?_
        subst T
        have hb2 := i_dn (B := (0 : Int32)) hb
        have hb3 : 0 < y2.toInt := hb
        exact ih (show m = ((y2 - 1).toInt - 0).toNat by rw [hb2]; omega) (fun rr hh => cvQ (funext fun q => funext fun z => if k0 : q = 67 ∧ z = 8 then by obtain ⟨w1, w2⟩ := k0; subst w1; subst w2; exact Eq.trans (b := rr.2.1) rfl rfl else if k1 : q = 67 ∧ z = 9 then by obtain ⟨w1, w2⟩ := k1; subst w1; subst w2; exact Eq.trans (b := rr.2.2.1) rfl rfl else if k2 : q = 67 ∧ z = 10 then by obtain ⟨w1, w2⟩ := k2; subst w1; subst w2; exact Eq.trans (b := rr.2.2.2.1) rfl rfl else if k3 : q = 67 ∧ z = 11 then by obtain ⟨w1, w2⟩ := k3; subst w1; subst w2; exact Eq.trans (b := rr.2.2.2.2.1) rfl rfl else by unfold uF; simp only [nb2 k0, nb2 k1, nb2 k2, nb2 k3, cond_false]) (funext fun q => if k0 : q = 91 then by subst k0; exact Eq.trans (b := rr.2.2.2.2.2) rfl rfl else by unfold uA; simp only [nb1 k0, cond_false]) rfl (K1 rr hh)) (fun ss hh => cvE (funext fun q => funext fun z => if k0 : q = 67 ∧ z = 9 then by obtain ⟨w1, w2⟩ := k0; subst w1; subst w2; exact Eq.trans (b := ss.2.2) rfl rfl else by unfold uF; simp only [nb2 k0, cond_false]) rfl rfl (K2 ss hh))
      · have h2 : ¬ G352 = 41 := h
        rw [if_neg h2] at hE
        refine w_n 2 (pc1 := 141) (ls1 := [some (.ref 67), some (.int x1), some (.int y2), some (.int y3)]) (st1 := [.int 1, .ref 67]) (hp1 := (hz F A L)) rfl ?_
        refine w_c rfl rfl (t_km_wrongOf ?_)
        show wl_E f _ _ mm221.2.2.2.2.2.2.2.2 144 [some (.ref 67), some (.int x1), some (.int y2), some (.int y3)] [.int (km_wrongOf (F 67 9) 1).1] (hz (uF F 67 11 (km_wrongOf (F 67 9) 1).2) A L) _
        generalize hG357 : (km_wrongOf (F 67 9) 1) = G357 at hE ⊢
        subst T
        exact w_ri rfl (cvQ (funext fun q => funext fun z => if k0 : q = 67 ∧ z = 8 then by obtain ⟨w1, w2⟩ := k0; subst w1; subst w2; exact Eq.trans (b := (F 67 8)) rfl rfl else if k1 : q = 67 ∧ z = 9 then by obtain ⟨w1, w2⟩ := k1; subst w1; subst w2; exact Eq.trans (b := (F 67 9)) rfl rfl else if k2 : q = 67 ∧ z = 10 then by obtain ⟨w1, w2⟩ := k2; subst w1; subst w2; exact Eq.trans (b := (F 67 10)) rfl rfl else if k3 : q = 67 ∧ z = 11 then by obtain ⟨w1, w2⟩ := k3; subst w1; subst w2; exact Eq.trans (b := G357.2) rfl rfl else by unfold uF; simp only [nb2 k0, nb2 k1, nb2 k2, nb2 k3, cond_false]) (funext fun q => if k0 : q = 91 then by subst k0; exact Eq.trans (b := (A 91)) rfl rfl else by unfold uA; simp only [nb1 k0, cond_false]) rfl (K1 _ rfl))
noncomputable def km_agenda_37 (f67_3 : Int32) (f67_8 : Int32) (f67_10 : Int32) (f67_11 : Int32) (a68 : List Int32) (a71 : List Int32)  : Nat → Int32 → Int32 → List Int32 → Int32 × Int32 × Int32 × Int32 × Int32 × List Int32
  | 0, _, f67_9, a91 => (0, f67_8, f67_9, f67_10, f67_11, a91)
  | m + 1, y2, f67_9, a91 => (if (km_here f67_9 f67_10 a71) = 40 then (if y2 = 8 then ((km_wrongOf f67_9 5).1, f67_8, f67_9, f67_10, (km_wrongOf f67_9 5).2, a91) else (km_agenda_37 f67_3 f67_8 f67_10 f67_11 a68 a71 m (y2 + 1) (f67_9 + 1) (a91.set y2.toInt.toNat (-1)))) else (if (km_isMeasure f67_3 ((km_here f67_9 f67_10 a71) - 97)) = 0 then ((km_wrongOf f67_9 1).1, f67_8, f67_9, f67_10, (km_wrongOf f67_9 1).2, a91) else (sE (km_agenda_114 f67_8 f67_10 a68 a71 a91 y2.toInt.toNat y2 ((km_here f67_9 f67_10 a71) - 97) (f67_9 + 1)) (fun rr1 => rr1) (fun ss1 => (if ss1.1 = 0 then (if ss1.2.2.toInt < f67_10.toInt then ((km_wrongOf ss1.2.2 1).1, f67_8, ss1.2.2, f67_10, (km_wrongOf ss1.2.2 1).2, a91) else (ss1.2.1, f67_8, ss1.2.2, f67_10, f67_11, a91)) else (km_agenda_37 f67_3 f67_8 f67_10 f67_11 a68 a71 m ss1.1 ss1.2.2 (a91.set (ss1.1 - 1).toInt.toNat ss1.2.1)))))))
theorem t_km_agenda_37 {f : Nat} {Q : Option Value → sm_H → Prop} : ∀ (m : Nat) (B : Nat) {D : Nat} {F : Nat → Nat → Int32} {A : Nat → List Int32} {L : Nat → List Int64} {x1 : Int32} {y2 : Int32} {o3 : Option Value}, B ≤ m → (Q (some (.int ((km_agenda_37 (F 67 3) (F 67 8) (F 67 10) (F 67 11) (A 68) (A 71) m y2 (F 67 9) (A 91)).1))) (hz (uF (uF (uF (uF F 67 8 ((km_agenda_37 (F 67 3) (F 67 8) (F 67 10) (F 67 11) (A 68) (A 71) m y2 (F 67 9) (A 91)).2.1)) 67 9 ((km_agenda_37 (F 67 3) (F 67 8) (F 67 10) (F 67 11) (A 68) (A 71) m y2 (F 67 9) (A 91)).2.2.1)) 67 10 ((km_agenda_37 (F 67 3) (F 67 8) (F 67 10) (F 67 11) (A 68) (A 71) m y2 (F 67 9) (A 91)).2.2.2.1)) 67 11 ((km_agenda_37 (F 67 3) (F 67 8) (F 67 10) (F 67 11) (A 68) (A 71) m y2 (F 67 9) (A 91)).2.2.2.2.1)) (uA A 91 ((km_agenda_37 (F 67 3) (F 67 8) (F 67 10) (F 67 11) (A 68) (A 71) m y2 (F 67 9) (A 91)).2.2.2.2.2)) L)) → wl_E f B D mm221.2.2.2.2.2.2.2.2 37 [some (.ref 67), some (.int x1), some (.int y2), o3] [] (hz F A L) Q := by
  intro m
  induction m with
  | zero =>
    intro B D F A L x1 y2 o3 hm K
    rw [show B = 0 by omega]
    exact w_0
  | succ m ih =>
    intro B D F A L x1 y2 o3 hm K
    cases B with
    | zero => exact w_0
    | succ B =>
      generalize hT : (km_agenda_37 (F 67 3) (F 67 8) (F 67 10) (F 67 11) (A 68) (A 71) (m + 1) y2 (F 67 9) (A 91)) = T at K
      have hE : T = (if (km_here (F 67 9) (F 67 10) (A 71)) = 40 then (if y2 = 8 then ((km_wrongOf (F 67 9) 5).1, (F 67 8), (F 67 9), (F 67 10), (km_wrongOf (F 67 9) 5).2, (A 91)) else (km_agenda_37 (F 67 3) (F 67 8) (F 67 10) (F 67 11) (A 68) (A 71) m (y2 + 1) ((F 67 9) + 1) ((A 91).set y2.toInt.toNat (-1)))) else (if (km_isMeasure (F 67 3) ((km_here (F 67 9) (F 67 10) (A 71)) - 97)) = 0 then ((km_wrongOf (F 67 9) 1).1, (F 67 8), (F 67 9), (F 67 10), (km_wrongOf (F 67 9) 1).2, (A 91)) else (sE (km_agenda_114 (F 67 8) (F 67 10) (A 68) (A 71) (A 91) y2.toInt.toNat y2 ((km_here (F 67 9) (F 67 10) (A 71)) - 97) ((F 67 9) + 1)) (fun rr1 => rr1) (fun ss1 => (if ss1.1 = 0 then (if ss1.2.2.toInt < (F 67 10).toInt then ((km_wrongOf ss1.2.2 1).1, (F 67 8), ss1.2.2, (F 67 10), (km_wrongOf ss1.2.2 1).2, (A 91)) else (ss1.2.1, (F 67 8), ss1.2.2, (F 67 10), (F 67 11), (A 91))) else (km_agenda_37 (F 67 3) (F 67 8) (F 67 10) (F 67 11) (A 68) (A 71) m ss1.1 ss1.2.2 ((A 91).set (ss1.1 - 1).toInt.toNat ss1.2.1))))))) := hT.symm
      clear hT
      refine w_n1 (pc1 := 38) (ls1 := [some (.ref 67), some (.int x1), some (.int y2), o3]) (st1 := [.ref 67]) (hp1 := (hz F A L)) rfl ?_
      refine w_c rfl rfl (t_km_here ?_)
      show wl_E f _ _ mm221.2.2.2.2.2.2.2.2 41 [some (.ref 67), some (.int x1), some (.int y2), o3] [.int (km_here (F 67 9) (F 67 10) (A 71))] (hz F A L) _
      generalize hG350 : (km_here (F 67 9) (F 67 10) (A 71)) = G350 at hE ⊢
      refine w_n 1 (pc1 := 43) (ls1 := [some (.ref 67), some (.int x1), some (.int y2), o3]) (st1 := [.int 40, .int G350]) (hp1 := (hz F A L)) rfl ?_
      refine w_ne (p3 := 46) rfl rfl (fun h => ?_) (fun h => ?_)
      · have h1 : ¬ G350 = 40 := h
        rw [if_neg h1] at hE
        refine w_n 1 (pc1 := 83) (ls1 := [some (.ref 67), some (.int x1), some (.int y2), o3]) (st1 := [.ref 67]) (hp1 := (hz F A L)) rfl ?_
        refine w_c rfl rfl (t_km_here ?_)
        show wl_E f _ _ mm221.2.2.2.2.2.2.2.2 86 [some (.ref 67), some (.int x1), some (.int y2), o3] [.int (km_here (F 67 9) (F 67 10) (A 71))] (hz F A L) _
        rw [hG350]
        refine w_n 5 (pc1 := 92) (ls1 := [some (.ref 67), some (.int x1), some (.int y2), some (.int (G350 - 97))]) (st1 := [.int (G350 - 97), .ref 67]) (hp1 := (hz F A L)) rfl ?_
        refine w_c rfl rfl (t_km_isMeasure ?_)
        show wl_E f _ _ mm221.2.2.2.2.2.2.2.2 95 [some (.ref 67), some (.int x1), some (.int y2), some (.int (G350 - 97))] [.int (km_isMeasure (F 67 3) (G350 - 97))] (hz F A L) _
        generalize hG351 : (km_isMeasure (F 67 3) (G350 - 97)) = G351 at hE ⊢
        refine w_zne (p3 := 98) rfl rfl (fun h => ?_) (fun h => ?_)
        · have h2 : ¬ G351 = 0 := h
          rw [if_neg h2] at hE
          refine w_n 5 (pc1 := 111) (ls1 := [some (.ref 67), some (.int x1), some (.int y2), some (.int (G350 - 97))]) (st1 := [.int ((F 67 9) + 1), .ref 67]) (hp1 := (hz F A L)) rfl ?_
          refine w_pf (k := 67) (fs := hz_f67 F) (hp1 := (hz (uF F 67 9 ((F 67 9) + 1)) A L)) rfl rfl rfl (hz_p67_9 _) ?_
          refine t_km_agenda_114 y2.toInt.toNat (show y2.toInt.toNat = (y2.toInt - 0).toNat by first | rfl | omega) (fun rr1 hh => ?_) (fun ss1 hh => ?_)
          · have hh : (km_agenda_114 (F 67 8) (F 67 10) (A 68) (A 71) (A 91) y2.toInt.toNat y2 (G350 - 97) ((F 67 9) + 1)) = Sum.inl rr1 := hh
            rw [hh] at hE
            replace hE : T = rr1 := hE
            subst T
            exact cvQ (funext fun q => funext fun z => if k0 : q = 67 ∧ z = 8 then by obtain ⟨w1, w2⟩ := k0; subst w1; subst w2; exact Eq.trans (b := rr1.2.1) rfl rfl else if k1 : q = 67 ∧ z = 9 then by obtain ⟨w1, w2⟩ := k1; subst w1; subst w2; exact Eq.trans (b := rr1.2.2.1) rfl rfl else if k2 : q = 67 ∧ z = 10 then by obtain ⟨w1, w2⟩ := k2; subst w1; subst w2; exact Eq.trans (b := rr1.2.2.2.1) rfl rfl else if k3 : q = 67 ∧ z = 11 then by obtain ⟨w1, w2⟩ := k3; subst w1; subst w2; exact Eq.trans (b := rr1.2.2.2.2.1) rfl rfl else by unfold uF; simp only [nb2 k0, nb2 k1, nb2 k2, nb2 k3, cond_false]) rfl rfl K
          · have hh : (km_agenda_114 (F 67 8) (F 67 10) (A 68) (A 71) (A 91) y2.toInt.toNat y2 (G350 - 97) ((F 67 9) + 1)) = Sum.inr ss1 := hh
            rw [hh] at hE
            replace hE : T = (if ss1.1 = 0 then (if ss1.2.2.toInt < (F 67 10).toInt then ((km_wrongOf ss1.2.2 1).1, (F 67 8), ss1.2.2, (F 67 10), (km_wrongOf ss1.2.2 1).2, (A 91)) else (ss1.2.1, (F 67 8), ss1.2.2, (F 67 10), (F 67 11), (A 91))) else (km_agenda_37 (F 67 3) (F 67 8) (F 67 10) (F 67 11) (A 68) (A 71) m ss1.1 ss1.2.2 ((A 91).set (ss1.1 - 1).toInt.toNat ss1.2.1))) := hE
            show wl_E f _ _ mm221.2.2.2.2.2.2.2.2 174 [some (.ref 67), some (.int x1), some (.int ss1.1), some (.int ss1.2.1)] [] (hz (uF (uF F 67 9 ((F 67 9) + 1)) 67 9 ss1.2.2) A L) _
            refine w_n 1 (pc1 := 175) (ls1 := [some (.ref 67), some (.int x1), some (.int ss1.1), some (.int ss1.2.1)]) (st1 := [.int ss1.1]) (hp1 := (hz (uF (uF F 67 9 ((F 67 9) + 1)) 67 9 ss1.2.2) A L)) rfl ?_
            refine w_zne (p3 := 178) rfl rfl (fun h => ?_) (fun h => ?_)
            · have h3 : ¬ ss1.1 = 0 := h
              rw [if_neg h3] at hE
              refine w_n 6 (pc1 := 207) (ls1 := [some (.ref 67), some (.int x1), some (.int ss1.1), some (.int ss1.2.1)]) (st1 := [.int ss1.2.1, .int (ss1.1 - 1), .ref 91]) (hp1 := (hz (uF (uF F 67 9 ((F 67 9) + 1)) 67 9 ss1.2.2) A L)) rfl ?_
              refine w_as (k := 91) (l := (A 91)) (hp1 := (hz (uF (uF F 67 9 ((F 67 9) + 1)) 67 9 ss1.2.2) (uA A 91 ((A 91).set (ss1.1 - 1).toInt.toNat ss1.2.1)) L)) rfl rfl rfl (hz_s91 _) (fun _ => ?_)
              refine w_n 1 (pc1 := 37) (ls1 := [some (.ref 67), some (.int x1), some (.int ss1.1), some (.int ss1.2.1)]) (st1 := []) (hp1 := (hz (uF (uF F 67 9 ((F 67 9) + 1)) 67 9 ss1.2.2) (uA A 91 ((A 91).set (ss1.1 - 1).toInt.toNat ss1.2.1)) L)) rfl ?_
              subst T
              exact ih _ (by omega) (cvQ (funext fun q => funext fun z => if k0 : q = 67 ∧ z = 8 then by obtain ⟨w1, w2⟩ := k0; subst w1; subst w2; exact Eq.trans (b := (km_agenda_37 (F 67 3) (F 67 8) (F 67 10) (F 67 11) (A 68) (A 71) m ss1.1 ss1.2.2 ((A 91).set (ss1.1 - 1).toInt.toNat ss1.2.1)).2.1) rfl rfl else if k1 : q = 67 ∧ z = 9 then by obtain ⟨w1, w2⟩ := k1; subst w1; subst w2; exact Eq.trans (b := (km_agenda_37 (F 67 3) (F 67 8) (F 67 10) (F 67 11) (A 68) (A 71) m ss1.1 ss1.2.2 ((A 91).set (ss1.1 - 1).toInt.toNat ss1.2.1)).2.2.1) rfl rfl else if k2 : q = 67 ∧ z = 10 then by obtain ⟨w1, w2⟩ := k2; subst w1; subst w2; exact Eq.trans (b := (km_agenda_37 (F 67 3) (F 67 8) (F 67 10) (F 67 11) (A 68) (A 71) m ss1.1 ss1.2.2 ((A 91).set (ss1.1 - 1).toInt.toNat ss1.2.1)).2.2.2.1) rfl rfl else if k3 : q = 67 ∧ z = 11 then by obtain ⟨w1, w2⟩ := k3; subst w1; subst w2; exact Eq.trans (b := (km_agenda_37 (F 67 3) (F 67 8) (F 67 10) (F 67 11) (A 68) (A 71) m ss1.1 ss1.2.2 ((A 91).set (ss1.1 - 1).toInt.toNat ss1.2.1)).2.2.2.2.1) rfl rfl else by unfold uF; simp only [nb2 k0, nb2 k1, nb2 k2, nb2 k3, cond_false]) (funext fun q => if k0 : q = 91 then by subst k0; exact Eq.trans (b := (km_agenda_37 (F 67 3) (F 67 8) (F 67 10) (F 67 11) (A 68) (A 71) m ss1.1 ss1.2.2 ((A 91).set (ss1.1 - 1).toInt.toNat ss1.2.1)).2.2.2.2.2) rfl rfl else by unfold uA; simp only [nb1 k0, cond_false]) rfl K)
            · have h3 : ss1.1 = 0 := h
              rw [if_pos h3] at hE
              refine w_n 4 (pc1 := 186) (ls1 := [some (.ref 67), some (.int x1), some (.int ss1.1), some (.int ss1.2.1)]) (st1 := [.int (F 67 10), .int ss1.2.2]) (hp1 := (hz (uF (uF F 67 9 ((F 67 9) + 1)) 67 9 ss1.2.2) A L)) rfl ?_
              refine w_ge (p3 := 189) rfl rfl (fun h => ?_) (fun h => ?_)
              · have h4 : (F 67 10).toInt ≤ ss1.2.2.toInt := h
                rw [if_neg (Int.not_lt.mpr h4)] at hE
                refine w_n 1 (pc1 := 198) (ls1 := [some (.ref 67), some (.int x1), some (.int ss1.1), some (.int ss1.2.1)]) (st1 := [.int ss1.2.1]) (hp1 := (hz (uF (uF F 67 9 ((F 67 9) + 1)) 67 9 ss1.2.2) A L)) rfl ?_
                subst T
                exact w_ri rfl (cvQ (funext fun q => funext fun z => if k0 : q = 67 ∧ z = 8 then by obtain ⟨w1, w2⟩ := k0; subst w1; subst w2; exact Eq.trans (b := (F 67 8)) rfl rfl else if k1 : q = 67 ∧ z = 9 then by obtain ⟨w1, w2⟩ := k1; subst w1; subst w2; exact Eq.trans (b := ss1.2.2) rfl rfl else if k2 : q = 67 ∧ z = 10 then by obtain ⟨w1, w2⟩ := k2; subst w1; subst w2; exact Eq.trans (b := (F 67 10)) rfl rfl else if k3 : q = 67 ∧ z = 11 then by obtain ⟨w1, w2⟩ := k3; subst w1; subst w2; exact Eq.trans (b := (F 67 11)) rfl rfl else by unfold uF; simp only [nb2 k0, nb2 k1, nb2 k2, nb2 k3, cond_false]) (funext fun q => if k0 : q = 91 then by subst k0; exact Eq.trans (b := (A 91)) rfl rfl else by unfold uA; simp only [nb1 k0, cond_false]) rfl K)
              · have h4 : ss1.2.2.toInt < (F 67 10).toInt := h
                rw [if_pos h4] at hE
                refine w_n 2 (pc1 := 191) (ls1 := [some (.ref 67), some (.int x1), some (.int ss1.1), some (.int ss1.2.1)]) (st1 := [.int 1, .ref 67]) (hp1 := (hz (uF (uF F 67 9 ((F 67 9) + 1)) 67 9 ss1.2.2) A L)) rfl ?_
                refine w_c rfl rfl (t_km_wrongOf ?_)
                show wl_E f _ _ mm221.2.2.2.2.2.2.2.2 194 [some (.ref 67), some (.int x1), some (.int ss1.1), some (.int ss1.2.1)] [.int (km_wrongOf ss1.2.2 1).1] (hz (uF (uF (uF F 67 9 ((F 67 9) + 1)) 67 9 ss1.2.2) 67 11 (km_wrongOf ss1.2.2 1).2) A L) _
                generalize hG358 : (km_wrongOf ss1.2.2 1) = G358 at hE ⊢
                refine w_n 1 (pc1 := 198) (ls1 := [some (.ref 67), some (.int x1), some (.int ss1.1), some (.int ss1.2.1)]) (st1 := [.int G358.1]) (hp1 := (hz (uF (uF (uF F 67 9 ((F 67 9) + 1)) 67 9 ss1.2.2) 67 11 G358.2) A L)) rfl ?_
                subst T
                exact w_ri rfl (cvQ (funext fun q => funext fun z => if k0 : q = 67 ∧ z = 8 then by obtain ⟨w1, w2⟩ := k0; subst w1; subst w2; exact Eq.trans (b := (F 67 8)) rfl rfl else if k1 : q = 67 ∧ z = 9 then by obtain ⟨w1, w2⟩ := k1; subst w1; subst w2; exact Eq.trans (b := ss1.2.2) rfl rfl else if k2 : q = 67 ∧ z = 10 then by obtain ⟨w1, w2⟩ := k2; subst w1; subst w2; exact Eq.trans (b := (F 67 10)) rfl rfl else if k3 : q = 67 ∧ z = 11 then by obtain ⟨w1, w2⟩ := k3; subst w1; subst w2; exact Eq.trans (b := G358.2) rfl rfl else by unfold uF; simp only [nb2 k0, nb2 k1, nb2 k2, nb2 k3, cond_false]) (funext fun q => if k0 : q = 91 then by subst k0; exact Eq.trans (b := (A 91)) rfl rfl else by unfold uA; simp only [nb1 k0, cond_false]) rfl K)
        · have h2 : G351 = 0 := h
          rw [if_pos h2] at hE
          refine w_n 2 (pc1 := 100) (ls1 := [some (.ref 67), some (.int x1), some (.int y2), some (.int (G350 - 97))]) (st1 := [.int 1, .ref 67]) (hp1 := (hz F A L)) rfl ?_
          refine w_c rfl rfl (t_km_wrongOf ?_)
          show wl_E f _ _ mm221.2.2.2.2.2.2.2.2 103 [some (.ref 67), some (.int x1), some (.int y2), some (.int (G350 - 97))] [.int (km_wrongOf (F 67 9) 1).1] (hz (uF F 67 11 (km_wrongOf (F 67 9) 1).2) A L) _
          generalize hG359 : (km_wrongOf (F 67 9) 1) = G359 at hE ⊢
          subst T
          exact w_ri rfl (cvQ (funext fun q => funext fun z => if k0 : q = 67 ∧ z = 8 then by obtain ⟨w1, w2⟩ := k0; subst w1; subst w2; exact Eq.trans (b := (F 67 8)) rfl rfl else if k1 : q = 67 ∧ z = 9 then by obtain ⟨w1, w2⟩ := k1; subst w1; subst w2; exact Eq.trans (b := (F 67 9)) rfl rfl else if k2 : q = 67 ∧ z = 10 then by obtain ⟨w1, w2⟩ := k2; subst w1; subst w2; exact Eq.trans (b := (F 67 10)) rfl rfl else if k3 : q = 67 ∧ z = 11 then by obtain ⟨w1, w2⟩ := k3; subst w1; subst w2; exact Eq.trans (b := G359.2) rfl rfl else by unfold uF; simp only [nb2 k0, nb2 k1, nb2 k2, nb2 k3, cond_false]) (funext fun q => if k0 : q = 91 then by subst k0; exact Eq.trans (b := (A 91)) rfl rfl else by unfold uA; simp only [nb1 k0, cond_false]) rfl K)
      · have h1 : G350 = 40 := h
        rw [if_pos h1] at hE
        refine w_n 2 (pc1 := 49) (ls1 := [some (.ref 67), some (.int x1), some (.int y2), o3]) (st1 := [.int 8, .int y2]) (hp1 := (hz F A L)) rfl ?_
        refine w_ne (p3 := 52) rfl rfl (fun h => ?_) (fun h => ?_)
        · have h5 : ¬ y2 = 8 := h
          rw [if_neg h5] at hE
          refine w_n 4 (pc1 := 64) (ls1 := [some (.ref 67), some (.int x1), some (.int y2), o3]) (st1 := [.int (-1), .int y2, .ref 91]) (hp1 := (hz F A L)) rfl ?_
          refine w_as (k := 91) (l := (A 91)) (hp1 := (hz F (uA A 91 ((A 91).set y2.toInt.toNat (-1))) L)) rfl rfl rfl (hz_s91 _) (fun _ => ?_)
          refine w_n 9 (pc1 := 76) (ls1 := [some (.ref 67), some (.int x1), some (.int (y2 + 1)), o3]) (st1 := [.int ((F 67 9) + 1), .ref 67]) (hp1 := (hz F (uA A 91 ((A 91).set y2.toInt.toNat (-1))) L)) rfl ?_
          refine w_pf (k := 67) (fs := hz_f67 F) (hp1 := (hz (uF F 67 9 ((F 67 9) + 1)) (uA A 91 ((A 91).set y2.toInt.toNat (-1))) L)) rfl rfl rfl (hz_p67_9 _) ?_
          refine w_n 1 (pc1 := 37) (ls1 := [some (.ref 67), some (.int x1), some (.int (y2 + 1)), o3]) (st1 := []) (hp1 := (hz (uF F 67 9 ((F 67 9) + 1)) (uA A 91 ((A 91).set y2.toInt.toNat (-1))) L)) rfl ?_
          subst T
          exact ih _ (by omega) (cvQ (funext fun q => funext fun z => if k0 : q = 67 ∧ z = 8 then by obtain ⟨w1, w2⟩ := k0; subst w1; subst w2; exact Eq.trans (b := (km_agenda_37 (F 67 3) (F 67 8) (F 67 10) (F 67 11) (A 68) (A 71) m (y2 + 1) ((F 67 9) + 1) ((A 91).set y2.toInt.toNat (-1))).2.1) rfl rfl else if k1 : q = 67 ∧ z = 9 then by obtain ⟨w1, w2⟩ := k1; subst w1; subst w2; exact Eq.trans (b := (km_agenda_37 (F 67 3) (F 67 8) (F 67 10) (F 67 11) (A 68) (A 71) m (y2 + 1) ((F 67 9) + 1) ((A 91).set y2.toInt.toNat (-1))).2.2.1) rfl rfl else if k2 : q = 67 ∧ z = 10 then by obtain ⟨w1, w2⟩ := k2; subst w1; subst w2; exact Eq.trans (b := (km_agenda_37 (F 67 3) (F 67 8) (F 67 10) (F 67 11) (A 68) (A 71) m (y2 + 1) ((F 67 9) + 1) ((A 91).set y2.toInt.toNat (-1))).2.2.2.1) rfl rfl else if k3 : q = 67 ∧ z = 11 then by obtain ⟨w1, w2⟩ := k3; subst w1; subst w2; exact Eq.trans (b := (km_agenda_37 (F 67 3) (F 67 8) (F 67 10) (F 67 11) (A 68) (A 71) m (y2 + 1) ((F 67 9) + 1) ((A 91).set y2.toInt.toNat (-1))).2.2.2.2.1) rfl rfl else by unfold uF; simp only [nb2 k0, nb2 k1, nb2 k2, nb2 k3, cond_false]) (funext fun q => if k0 : q = 91 then by subst k0; exact Eq.trans (b := (km_agenda_37 (F 67 3) (F 67 8) (F 67 10) (F 67 11) (A 68) (A 71) m (y2 + 1) ((F 67 9) + 1) ((A 91).set y2.toInt.toNat (-1))).2.2.2.2.2) rfl rfl else by unfold uA; simp only [nb1 k0, cond_false]) rfl K)
        · have h5 : y2 = 8 := h
          rw [if_pos h5] at hE
          refine w_n 2 (pc1 := 54) (ls1 := [some (.ref 67), some (.int x1), some (.int y2), o3]) (st1 := [.int 5, .ref 67]) (hp1 := (hz F A L)) rfl ?_
          refine w_c rfl rfl (t_km_wrongOf ?_)
          show wl_E f _ _ mm221.2.2.2.2.2.2.2.2 57 [some (.ref 67), some (.int x1), some (.int y2), o3] [.int (km_wrongOf (F 67 9) 5).1] (hz (uF F 67 11 (km_wrongOf (F 67 9) 5).2) A L) _
          generalize hG360 : (km_wrongOf (F 67 9) 5) = G360 at hE ⊢
          subst T
          exact w_ri rfl (cvQ (funext fun q => funext fun z => if k0 : q = 67 ∧ z = 8 then by obtain ⟨w1, w2⟩ := k0; subst w1; subst w2; exact Eq.trans (b := (F 67 8)) rfl rfl else if k1 : q = 67 ∧ z = 9 then by obtain ⟨w1, w2⟩ := k1; subst w1; subst w2; exact Eq.trans (b := (F 67 9)) rfl rfl else if k2 : q = 67 ∧ z = 10 then by obtain ⟨w1, w2⟩ := k2; subst w1; subst w2; exact Eq.trans (b := (F 67 10)) rfl rfl else if k3 : q = 67 ∧ z = 11 then by obtain ⟨w1, w2⟩ := k3; subst w1; subst w2; exact Eq.trans (b := G360.2) rfl rfl else by unfold uF; simp only [nb2 k0, nb2 k1, nb2 k2, nb2 k3, cond_false]) (funext fun q => if k0 : q = 91 then by subst k0; exact Eq.trans (b := (A 91)) rfl rfl else by unfold uA; simp only [nb1 k0, cond_false]) rfl K)
