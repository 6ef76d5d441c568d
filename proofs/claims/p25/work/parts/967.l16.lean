/-! lifts, printed by genlift.py: 16 -/
noncomputable def ka_winnerOf : Nat → Int32 → Int32 → Int32 → Int32 → List Int32 → List Int32 → Int32 → Int32 → (Int32 × Int32 × Int32)
  | 0, _, f1_3, f1_4, _, _, _, _, _ => (0, f1_3, f1_4)
  | n + 1, f1_2, f1_3, f1_4, f3_0, a2, a33, x1, x2 => ka_winnerOf_b (ka_winnerOf n) f1_2 f1_3 f1_4 f3_0 a2 a33 x1 x2
theorem t_ka_winnerOf {f : Nat} : ∀ (n : Nat), n ≤ f → ∀ {D : Nat} {F : Nat → Nat → Int32} {A : Nat → List Int32} {L : Nat → List Int64} {Q : Option Value → sm_H → Prop} {x1 : Int32} {x2 : Int32}, D ≤ n → (Q (some (.int ((ka_winnerOf n (F 1 2) (F 1 3) (F 1 4) (F 3 0) (A 2) (A 33) x1 x2).1))) (hz (uF (uF F 1 3 ((ka_winnerOf n (F 1 2) (F 1 3) (F 1 4) (F 3 0) (A 2) (A 33) x1 x2).2.1)) 1 4 ((ka_winnerOf n (F 1 2) (F 1 3) (F 1 4) (F 3 0) (A 2) (A 33) x1 x2).2.2)) A L)) → wl_M f D 97 [.ref 62, .int x1, .int x2] (hz F A L) Q := by
  intro n
  induction n with
  | zero =>
    intro hf D F A L Q x1 x2 hD K
    obtain rfl : D = 0 := by omega
    exact w_m0
  | succ n ih =>
    intro hf D F A L Q x1 x2 hD K
    exact t_ka_winnerOf_b (n := n) (r := ka_winnerOf n) (fun _ => ih (by omega)) hf hD K
noncomputable def ka_readAgenda (f : Nat) (f1_2 : Int32) (f1_3 : Int32) (f1_4 : Int32) (f3_0 : Int32) (a2 : List Int32) (a33 : List Int32) (x1 : Int32) : Int32 × Int32 × Int32 := (if (ka_winnerOf f f1_2 f1_3 f1_4 f3_0 a2 a33 x1 0).2.2 = 0 then (if (kx_sign f1_2 (ka_winnerOf f f1_2 f1_3 f1_4 f3_0 a2 a33 x1 0).2.1 a2) = (-1) then ((ka_winnerOf f f1_2 f1_3 f1_4 f3_0 a2 a33 x1 0).1, (ka_winnerOf f f1_2 f1_3 f1_4 f3_0 a2 a33 x1 0).2.1, (ka_winnerOf f f1_2 f1_3 f1_4 f3_0 a2 a33 x1 0).2.2) else ((ka_winnerOf f f1_2 f1_3 f1_4 f3_0 a2 a33 x1 0).1, (ka_winnerOf f f1_2 f1_3 f1_4 f3_0 a2 a33 x1 0).2.1, (kx_fail (ka_winnerOf f f1_2 f1_3 f1_4 f3_0 a2 a33 x1 0).2.1 (ka_winnerOf f f1_2 f1_3 f1_4 f3_0 a2 a33 x1 0).2.2 1).2)) else ((ka_winnerOf f f1_2 f1_3 f1_4 f3_0 a2 a33 x1 0).1, (ka_winnerOf f f1_2 f1_3 f1_4 f3_0 a2 a33 x1 0).2.1, (ka_winnerOf f f1_2 f1_3 f1_4 f3_0 a2 a33 x1 0).2.2))
theorem t_ka_readAgenda {f D : Nat} {F : Nat → Nat → Int32} {A : Nat → List Int32} {L : Nat → List Int64} {Q : Option Value → sm_H → Prop} {x1 : Int32} (hh0 : D ≤ f) (K : Q (some (.int ((ka_readAgenda f (F 1 2) (F 1 3) (F 1 4) (F 3 0) (A 2) (A 33) x1).1))) (hz (uF (uF F 1 3 ((ka_readAgenda f (F 1 2) (F 1 3) (F 1 4) (F 3 0) (A 2) (A 33) x1).2.1)) 1 4 ((ka_readAgenda f (F 1 2) (F 1 3) (F 1 4) (F 3 0) (A 2) (A 33) x1).2.2)) A L)) : wl_M f D 96 [.ref 62, .int x1] (hz F A L) Q := by
  generalize hT : (ka_readAgenda f (F 1 2) (F 1 3) (F 1 4) (F 3 0) (A 2) (A 33) x1) = T at K
  have hE : T = (if (ka_winnerOf f (F 1 2) (F 1 3) (F 1 4) (F 3 0) (A 2) (A 33) x1 0).2.2 = 0 then (if (kx_sign (F 1 2) (ka_winnerOf f (F 1 2) (F 1 3) (F 1 4) (F 3 0) (A 2) (A 33) x1 0).2.1 (A 2)) = (-1) then ((ka_winnerOf f (F 1 2) (F 1 3) (F 1 4) (F 3 0) (A 2) (A 33) x1 0).1, (ka_winnerOf f (F 1 2) (F 1 3) (F 1 4) (F 3 0) (A 2) (A 33) x1 0).2.1, (ka_winnerOf f (F 1 2) (F 1 3) (F 1 4) (F 3 0) (A 2) (A 33) x1 0).2.2) else ((ka_winnerOf f (F 1 2) (F 1 3) (F 1 4) (F 3 0) (A 2) (A 33) x1 0).1, (ka_winnerOf f (F 1 2) (F 1 3) (F 1 4) (F 3 0) (A 2) (A 33) x1 0).2.1, (kx_fail (ka_winnerOf f (F 1 2) (F 1 3) (F 1 4) (F 3 0) (A 2) (A 33) x1 0).2.1 (ka_winnerOf f (F 1 2) (F 1 3) (F 1 4) (F 3 0) (A 2) (A 33) x1 0).2.2 1).2)) else ((ka_winnerOf f (F 1 2) (F 1 3) (F 1 4) (F 3 0) (A 2) (A 33) x1 0).1, (ka_winnerOf f (F 1 2) (F 1 3) (F 1 4) (F 3 0) (A 2) (A 33) x1 0).2.1, (ka_winnerOf f (F 1 2) (F 1 3) (F 1 4) (F 3 0) (A 2) (A 33) x1 0).2.2)) := hT.symm
  clear hT
  refine w_m (E := mm96) rfl ?_
  show wl_E f f (D - 1) mm96.2.2.2.2.2.2.2.2 0 [some (.ref 62), some (.int x1), none] [] (hz F A L) Q
  refine w_n 3 (pc1 := 3) (ls1 := [some (.ref 62), some (.int x1), none]) (st1 := [.int 0, .int x1, .ref 62]) (hp1 := (hz F A L)) rfl ?_
  refine w_c rfl rfl (t_ka_winnerOf f (Nat.le_refl _) (by omega) ?_)
  show wl_E f _ _ mm96.2.2.2.2.2.2.2.2 6 [some (.ref 62), some (.int x1), none] [.int (ka_winnerOf f (F 1 2) (F 1 3) (F 1 4) (F 3 0) (A 2) (A 33) x1 0).1] (hz (uF (uF F 1 3 (ka_winnerOf f (F 1 2) (F 1 3) (F 1 4) (F 3 0) (A 2) (A 33) x1 0).2.1) 1 4 (ka_winnerOf f (F 1 2) (F 1 3) (F 1 4) (F 3 0) (A 2) (A 33) x1 0).2.2) A L) _
  generalize hG450 : (ka_winnerOf f (F 1 2) (F 1 3) (F 1 4) (F 3 0) (A 2) (A 33) x1 0) = G450 at hE ⊢
  refine w_n 4 (pc1 := 14) (ls1 := [some (.ref 62), some (.int x1), some (.int G450.1)]) (st1 := [.int G450.2.2]) (hp1 := (hz (uF (uF F 1 3 G450.2.1) 1 4 G450.2.2) A L)) rfl ?_
  refine w_zne (p3 := 17) rfl rfl (fun h => ?_) (fun h => ?_)
  · have h1 : ¬ G450.2.2 = 0 := h
    rw [if_neg h1] at hE
    refine w_n 1 (pc1 := 38) (ls1 := [some (.ref 62), some (.int x1), some (.int G450.1)]) (st1 := [.int G450.1]) (hp1 := (hz (uF (uF F 1 3 G450.2.1) 1 4 G450.2.2) A L)) rfl ?_
    subst T
    exact w_ri rfl (cvQ rfl rfl rfl K)
  · have h1 : G450.2.2 = 0 := h
    rw [if_pos h1] at hE
    refine w_n 2 (pc1 := 21) (ls1 := [some (.ref 62), some (.int x1), some (.int G450.1)]) (st1 := [.ref 1]) (hp1 := (hz (uF (uF F 1 3 G450.2.1) 1 4 G450.2.2) A L)) rfl ?_
    refine w_c rfl rfl (t_kx_sign ?_)
    show wl_E f _ _ mm96.2.2.2.2.2.2.2.2 24 [some (.ref 62), some (.int x1), some (.int G450.1)] [.int (kx_sign (F 1 2) G450.2.1 (A 2))] (hz (uF (uF F 1 3 G450.2.1) 1 4 G450.2.2) A L) _
    generalize hG451 : (kx_sign (F 1 2) G450.2.1 (A 2)) = G451 at hE ⊢
    refine w_n 1 (pc1 := 25) (ls1 := [some (.ref 62), some (.int x1), some (.int G450.1)]) (st1 := [.int (-1), .int G451]) (hp1 := (hz (uF (uF F 1 3 G450.2.1) 1 4 G450.2.2) A L)) rfl ?_
    refine w_eq (p3 := 28) rfl rfl (fun h => ?_) (fun h => ?_)
    · have h2 : G451 = (-1) := h
      rw [if_pos h2] at hE
      refine w_n 1 (pc1 := 38) (ls1 := [some (.ref 62), some (.int x1), some (.int G450.1)]) (st1 := [.int G450.1]) (hp1 := (hz (uF (uF F 1 3 G450.2.1) 1 4 G450.2.2) A L)) rfl ?_
      subst T
      exact w_ri rfl (cvQ rfl rfl rfl K)
    · have h2 : ¬ G451 = (-1) := h
      rw [if_neg h2] at hE
      refine w_n 3 (pc1 := 33) (ls1 := [some (.ref 62), some (.int x1), some (.int G450.1)]) (st1 := [.int 1, .ref 1]) (hp1 := (hz (uF (uF F 1 3 G450.2.1) 1 4 G450.2.2) A L)) rfl ?_
      refine w_c rfl rfl (t_kx_fail ?_)
      show wl_E f _ _ mm96.2.2.2.2.2.2.2.2 36 [some (.ref 62), some (.int x1), some (.int G450.1)] [.int (kx_fail G450.2.1 G450.2.2 1).1] (hz (uF (uF (uF F 1 3 G450.2.1) 1 4 G450.2.2) 1 4 (kx_fail G450.2.1 G450.2.2 1).2) A L) _
      generalize hG452 : (kx_fail G450.2.1 G450.2.2 1) = G452 at hE ⊢
      refine w_n 2 (pc1 := 38) (ls1 := [some (.ref 62), some (.int x1), some (.int G450.1)]) (st1 := [.int G450.1]) (hp1 := (hz (uF (uF (uF F 1 3 G450.2.1) 1 4 G450.2.2) 1 4 G452.2) A L)) rfl ?_
      subst T
      exact w_ri rfl (cvQ (funext fun q => funext fun z => if k0 : q = 1 ∧ z = 3 then by obtain ⟨w1, w2⟩ := k0; subst w1; subst w2; exact Eq.trans (b := G450.2.1) rfl rfl else if k1 : q = 1 ∧ z = 4 then by obtain ⟨w1, w2⟩ := k1; subst w1; subst w2; exact Eq.trans (b := G452.2) rfl rfl else by unfold uF; simp only [nb2 k0, nb2 k1, cond_false]) rfl rfl K)
noncomputable def kc_agenda (f : Nat) (f1_1 : Int32) (f1_2 : Int32) (f1_3 : Int32) (f1_4 : Int32) (f3_0 : Int32) (f3_1 : Int32) (a2 : List Int32) (a6 : List Int32) (a32 : List Int32) (a33 : List Int32) (l11 : List Int64) (x1 : Int32) : Int32 × Int32 × Int32 × Int32 × Int32 × List Int32 × List Int32 := (if (kx_has f1_1 x1 1 60) = 0 then ((-1), f1_1, f1_2, f1_3, f1_4, a32, a33) else (if (ka_readAgenda f (kx_open x1).1 (kx_open x1).2.1 (kx_open x1).2.2 f3_0 a2 (kv_weighPairs f3_0 f3_1 a6 a32 a33 l11).2 f3_0).2.2 = 0 then ((ka_readAgenda f (kx_open x1).1 (kx_open x1).2.1 (kx_open x1).2.2 f3_0 a2 (kv_weighPairs f3_0 f3_1 a6 a32 a33 l11).2 f3_0).1, 0, (kx_open x1).1, (ka_readAgenda f (kx_open x1).1 (kx_open x1).2.1 (kx_open x1).2.2 f3_0 a2 (kv_weighPairs f3_0 f3_1 a6 a32 a33 l11).2 f3_0).2.1, (ka_readAgenda f (kx_open x1).1 (kx_open x1).2.1 (kx_open x1).2.2 f3_0 a2 (kv_weighPairs f3_0 f3_1 a6 a32 a33 l11).2 f3_0).2.2, (kv_weighPairs f3_0 f3_1 a6 a32 a33 l11).1, (kv_weighPairs f3_0 f3_1 a6 a32 a33 l11).2) else ((ka_readAgenda f (kx_open x1).1 (kx_open x1).2.1 (kx_open x1).2.2 f3_0 a2 (kv_weighPairs f3_0 f3_1 a6 a32 a33 l11).2 f3_0).2.2, 0, (kx_open x1).1, (ka_readAgenda f (kx_open x1).1 (kx_open x1).2.1 (kx_open x1).2.2 f3_0 a2 (kv_weighPairs f3_0 f3_1 a6 a32 a33 l11).2 f3_0).2.1, (ka_readAgenda f (kx_open x1).1 (kx_open x1).2.1 (kx_open x1).2.2 f3_0 a2 (kv_weighPairs f3_0 f3_1 a6 a32 a33 l11).2 f3_0).2.2, (kv_weighPairs f3_0 f3_1 a6 a32 a33 l11).1, (kv_weighPairs f3_0 f3_1 a6 a32 a33 l11).2)))
theorem t_kc_agenda {f D : Nat} {F : Nat → Nat → Int32} {A : Nat → List Int32} {L : Nat → List Int64} {Q : Option Value → sm_H → Prop} {x1 : Int32} (hh0 : D ≤ f) (K : Q (some (.int ((kc_agenda f (F 1 1) (F 1 2) (F 1 3) (F 1 4) (F 3 0) (F 3 1) (A 2) (A 6) (A 32) (A 33) (L 11) x1).1))) (hz (uF (uF (uF (uF F 1 1 ((kc_agenda f (F 1 1) (F 1 2) (F 1 3) (F 1 4) (F 3 0) (F 3 1) (A 2) (A 6) (A 32) (A 33) (L 11) x1).2.1)) 1 2 ((kc_agenda f (F 1 1) (F 1 2) (F 1 3) (F 1 4) (F 3 0) (F 3 1) (A 2) (A 6) (A 32) (A 33) (L 11) x1).2.2.1)) 1 3 ((kc_agenda f (F 1 1) (F 1 2) (F 1 3) (F 1 4) (F 3 0) (F 3 1) (A 2) (A 6) (A 32) (A 33) (L 11) x1).2.2.2.1)) 1 4 ((kc_agenda f (F 1 1) (F 1 2) (F 1 3) (F 1 4) (F 3 0) (F 3 1) (A 2) (A 6) (A 32) (A 33) (L 11) x1).2.2.2.2.1)) (uA (uA A 32 ((kc_agenda f (F 1 1) (F 1 2) (F 1 3) (F 1 4) (F 3 0) (F 3 1) (A 2) (A 6) (A 32) (A 33) (L 11) x1).2.2.2.2.2.1)) 33 ((kc_agenda f (F 1 1) (F 1 2) (F 1 3) (F 1 4) (F 3 0) (F 3 1) (A 2) (A 6) (A 32) (A 33) (L 11) x1).2.2.2.2.2.2)) L)) : wl_M f D 95 [.ref 0, .int x1] (hz F A L) Q := by
  generalize hT : (kc_agenda f (F 1 1) (F 1 2) (F 1 3) (F 1 4) (F 3 0) (F 3 1) (A 2) (A 6) (A 32) (A 33) (L 11) x1) = T at K
  have hE : T = (if (kx_has (F 1 1) x1 1 60) = 0 then ((-1), (F 1 1), (F 1 2), (F 1 3), (F 1 4), (A 32), (A 33)) else (if (ka_readAgenda f (kx_open x1).1 (kx_open x1).2.1 (kx_open x1).2.2 (F 3 0) (A 2) (kv_weighPairs (F 3 0) (F 3 1) (A 6) (A 32) (A 33) (L 11)).2 (F 3 0)).2.2 = 0 then ((ka_readAgenda f (kx_open x1).1 (kx_open x1).2.1 (kx_open x1).2.2 (F 3 0) (A 2) (kv_weighPairs (F 3 0) (F 3 1) (A 6) (A 32) (A 33) (L 11)).2 (F 3 0)).1, 0, (kx_open x1).1, (ka_readAgenda f (kx_open x1).1 (kx_open x1).2.1 (kx_open x1).2.2 (F 3 0) (A 2) (kv_weighPairs (F 3 0) (F 3 1) (A 6) (A 32) (A 33) (L 11)).2 (F 3 0)).2.1, (ka_readAgenda f (kx_open x1).1 (kx_open x1).2.1 (kx_open x1).2.2 (F 3 0) (A 2) (kv_weighPairs (F 3 0) (F 3 1) (A 6) (A 32) (A 33) (L 11)).2 (F 3 0)).2.2, (kv_weighPairs (F 3 0) (F 3 1) (A 6) (A 32) (A 33) (L 11)).1, (kv_weighPairs (F 3 0) (F 3 1) (A 6) (A 32) (A 33) (L 11)).2) else ((ka_readAgenda f (kx_open x1).1 (kx_open x1).2.1 (kx_open x1).2.2 (F 3 0) (A 2) (kv_weighPairs (F 3 0) (F 3 1) (A 6) (A 32) (A 33) (L 11)).2 (F 3 0)).2.2, 0, (kx_open x1).1, (ka_readAgenda f (kx_open x1).1 (kx_open x1).2.1 (kx_open x1).2.2 (F 3 0) (A 2) (kv_weighPairs (F 3 0) (F 3 1) (A 6) (A 32) (A 33) (L 11)).2 (F 3 0)).2.1, (ka_readAgenda f (kx_open x1).1 (kx_open x1).2.1 (kx_open x1).2.2 (F 3 0) (A 2) (kv_weighPairs (F 3 0) (F 3 1) (A 6) (A 32) (A 33) (L 11)).2 (F 3 0)).2.2, (kv_weighPairs (F 3 0) (F 3 1) (A 6) (A 32) (A 33) (L 11)).1, (kv_weighPairs (F 3 0) (F 3 1) (A 6) (A 32) (A 33) (L 11)).2))) := hT.symm
  clear hT
  refine w_m (E := mm95) rfl ?_
  show wl_E f f (D - 1) mm95.2.2.2.2.2.2.2.2 0 [some (.ref 0), some (.int x1), none] [] (hz F A L) Q
  refine w_n 5 (pc1 := 8) (ls1 := [some (.ref 0), some (.int x1), none]) (st1 := [.int 60, .int 1, .int x1, .ref 1]) (hp1 := (hz F A L)) rfl ?_
  refine w_c rfl rfl (t_kx_has ?_)
  show wl_E f _ _ mm95.2.2.2.2.2.2.2.2 11 [some (.ref 0), some (.int x1), none] [.int (kx_has (F 1 1) x1 1 60)] (hz F A L) _
  generalize hG437 : (kx_has (F 1 1) x1 1 60) = G437 at hE ⊢
  refine w_zne (p3 := 14) rfl rfl (fun h => ?_) (fun h => ?_)
  · have h1 : ¬ G437 = 0 := h
    rw [if_neg h1] at hE
    refine w_n 3 (pc1 := 21) (ls1 := [some (.ref 0), some (.int x1), none]) (st1 := [.int x1, .ref 1]) (hp1 := (hz F A L)) rfl ?_
    refine w_c rfl rfl (t_kx_open ?_)
    show wl_E f _ _ mm95.2.2.2.2.2.2.2.2 24 [some (.ref 0), some (.int x1), none] [] (hz (uF (uF (uF F 1 2 (kx_open x1).1) 1 3 (kx_open x1).2.1) 1 4 (kx_open x1).2.2) A L) _
    generalize hG438 : (kx_open x1) = G438 at hE ⊢
    refine w_n 2 (pc1 := 28) (ls1 := [some (.ref 0), some (.int x1), none]) (st1 := [.ref 30]) (hp1 := (hz (uF (uF (uF F 1 2 G438.1) 1 3 G438.2.1) 1 4 G438.2.2) A L)) rfl ?_
    refine w_c rfl rfl (t_kv_weighPairs ?_)
    show wl_E f _ _ mm95.2.2.2.2.2.2.2.2 31 [some (.ref 0), some (.int x1), none] [] (hz (uF (uF (uF F 1 2 G438.1) 1 3 G438.2.1) 1 4 G438.2.2) (uA (uA A 32 (kv_weighPairs (F 3 0) (F 3 1) (A 6) (A 32) (A 33) (L 11)).1) 33 (kv_weighPairs (F 3 0) (F 3 1) (A 6) (A 32) (A 33) (L 11)).2) L) _
    generalize hG439 : (kv_weighPairs (F 3 0) (F 3 1) (A 6) (A 32) (A 33) (L 11)) = G439 at hE ⊢
    refine w_n 5 (pc1 := 42) (ls1 := [some (.ref 0), some (.int x1), none]) (st1 := [.int (F 3 0), .ref 62]) (hp1 := (hz (uF (uF (uF F 1 2 G438.1) 1 3 G438.2.1) 1 4 G438.2.2) (uA (uA A 32 G439.1) 33 G439.2) L)) rfl ?_
    refine w_c rfl rfl (t_ka_readAgenda (by omega) ?_)
    show wl_E f _ _ mm95.2.2.2.2.2.2.2.2 45 [some (.ref 0), some (.int x1), none] [.int (ka_readAgenda f G438.1 G438.2.1 G438.2.2 (F 3 0) (A 2) G439.2 (F 3 0)).1] (hz (uF (uF (uF (uF (uF F 1 2 G438.1) 1 3 G438.2.1) 1 4 G438.2.2) 1 3 (ka_readAgenda f G438.1 G438.2.1 G438.2.2 (F 3 0) (A 2) G439.2 (F 3 0)).2.1) 1 4 (ka_readAgenda f G438.1 G438.2.1 G438.2.2 (F 3 0) (A 2) G439.2 (F 3 0)).2.2) (uA (uA A 32 G439.1) 33 G439.2) L) _
    generalize hG453 : (ka_readAgenda f G438.1 G438.2.1 G438.2.2 (F 3 0) (A 2) G439.2 (F 3 0)) = G453 at hE ⊢
    refine w_n 4 (pc1 := 51) (ls1 := [some (.ref 0), some (.int x1), some (.int G453.1)]) (st1 := [.int 0, .ref 1]) (hp1 := (hz (uF (uF (uF (uF (uF F 1 2 G438.1) 1 3 G438.2.1) 1 4 G438.2.2) 1 3 G453.2.1) 1 4 G453.2.2) (uA (uA A 32 G439.1) 33 G439.2) L)) rfl ?_
    refine w_pf (k := 1) (fs := hz_f1 (uF (uF (uF (uF (uF F 1 2 G438.1) 1 3 G438.2.1) 1 4 G438.2.2) 1 3 G453.2.1) 1 4 G453.2.2)) (hp1 := (hz (uF (uF (uF (uF (uF (uF F 1 2 G438.1) 1 3 G438.2.1) 1 4 G438.2.2) 1 3 G453.2.1) 1 4 G453.2.2) 1 1 0) (uA (uA A 32 G439.1) 33 G439.2) L)) rfl rfl rfl (hz_p1_1 _) ?_
    refine w_n 3 (pc1 := 61) (ls1 := [some (.ref 0), some (.int x1), some (.int G453.1)]) (st1 := [.int G453.2.2]) (hp1 := (hz (uF (uF (uF (uF (uF (uF F 1 2 G438.1) 1 3 G438.2.1) 1 4 G438.2.2) 1 3 G453.2.1) 1 4 G453.2.2) 1 1 0) (uA (uA A 32 G439.1) 33 G439.2) L)) rfl ?_
    refine w_zeq (p3 := 64) rfl rfl (fun h => ?_) (fun h => ?_)
    · have h2 : G453.2.2 = 0 := h
      rw [if_pos h2] at hE
      refine w_n 1 (pc1 := 75) (ls1 := [some (.ref 0), some (.int x1), some (.int G453.1)]) (st1 := [.int G453.1]) (hp1 := (hz (uF (uF (uF (uF (uF (uF F 1 2 G438.1) 1 3 G438.2.1) 1 4 G438.2.2) 1 3 G453.2.1) 1 4 G453.2.2) 1 1 0) (uA (uA A 32 G439.1) 33 G439.2) L)) rfl ?_
      subst T
      exact w_ri rfl (cvQ (funext fun q => funext fun z => if k0 : q = 1 ∧ z = 1 then by obtain ⟨w1, w2⟩ := k0; subst w1; subst w2; exact Eq.trans (b := 0) rfl rfl else if k1 : q = 1 ∧ z = 2 then by obtain ⟨w1, w2⟩ := k1; subst w1; subst w2; exact Eq.trans (b := G438.1) rfl rfl else if k2 : q = 1 ∧ z = 3 then by obtain ⟨w1, w2⟩ := k2; subst w1; subst w2; exact Eq.trans (b := G453.2.1) rfl rfl else if k3 : q = 1 ∧ z = 4 then by obtain ⟨w1, w2⟩ := k3; subst w1; subst w2; exact Eq.trans (b := G453.2.2) rfl rfl else by unfold uF; simp only [nb2 k0, nb2 k1, nb2 k2, nb2 k3, cond_false]) rfl rfl K)
    · have h2 : ¬ G453.2.2 = 0 := h
      rw [if_neg h2] at hE
      refine w_n 4 (pc1 := 75) (ls1 := [some (.ref 0), some (.int x1), some (.int G453.1)]) (st1 := [.int G453.2.2]) (hp1 := (hz (uF (uF (uF (uF (uF (uF F 1 2 G438.1) 1 3 G438.2.1) 1 4 G438.2.2) 1 3 G453.2.1) 1 4 G453.2.2) 1 1 0) (uA (uA A 32 G439.1) 33 G439.2) L)) rfl ?_
      subst T
      exact w_ri rfl (cvQ (funext fun q => funext fun z => if k0 : q = 1 ∧ z = 1 then by obtain ⟨w1, w2⟩ := k0; subst w1; subst w2; exact Eq.trans (b := 0) rfl rfl else if k1 : q = 1 ∧ z = 2 then by obtain ⟨w1, w2⟩ := k1; subst w1; subst w2; exact Eq.trans (b := G438.1) rfl rfl else if k2 : q = 1 ∧ z = 3 then by obtain ⟨w1, w2⟩ := k2; subst w1; subst w2; exact Eq.trans (b := G453.2.1) rfl rfl else if k3 : q = 1 ∧ z = 4 then by obtain ⟨w1, w2⟩ := k3; subst w1; subst w2; exact Eq.trans (b := G453.2.2) rfl rfl else by unfold uF; simp only [nb2 k0, nb2 k1, nb2 k2, nb2 k3, cond_false]) rfl rfl K)
  · have h1 : G437 = 0 := h
    rw [if_pos h1] at hE
    refine w_n 1 (pc1 := 15) (ls1 := [some (.ref 0), some (.int x1), none]) (st1 := [.int (-1)]) (hp1 := (hz F A L)) rfl ?_
    subst T
    exact w_ri rfl (cvQ (funext fun q => funext fun z => if k0 : q = 1 ∧ z = 1 then by obtain ⟨w1, w2⟩ := k0; subst w1; subst w2; exact Eq.trans (b := (F 1 1)) rfl rfl else if k1 : q = 1 ∧ z = 2 then by obtain ⟨w1, w2⟩ := k1; subst w1; subst w2; exact Eq.trans (b := (F 1 2)) rfl rfl else if k2 : q = 1 ∧ z = 3 then by obtain ⟨w1, w2⟩ := k2; subst w1; subst w2; exact Eq.trans (b := (F 1 3)) rfl rfl else if k3 : q = 1 ∧ z = 4 then by obtain ⟨w1, w2⟩ := k3; subst w1; subst w2; exact Eq.trans (b := (F 1 4)) rfl rfl else by unfold uF; simp only [nb2 k0, nb2 k1, nb2 k2, nb2 k3, cond_false]) (funext fun q => if k0 : q = 32 then by subst k0; exact Eq.trans (b := (A 32)) rfl rfl else if k1 : q = 33 then by subst k1; exact Eq.trans (b := (A 33)) rfl rfl else by unfold uA; simp only [nb1 k0, nb1 k1, cond_false]) rfl K)
noncomputable def km_agenda_114 (f67_8 : Int32) (f67_10 : Int32) (a68 : List Int32) (a71 : List Int32) (a91 : List Int32)  : Nat → Int32 → Int32 → Int32 → Sum (Int32 × Int32 × Int32 × Int32 × Int32 × List Int32) (Int32 × Int32 × Int32)
  | 0, y2, y3, f67_9 => (Sum.inr (y2, y3, f67_9))
  | m + 1, y2, y3, f67_9 => (if (a91.getD (y2 - 1).toInt.toNat 0) = (-1) then (Sum.inr (y2, y3, f67_9)) else (if (km_here f67_9 f67_10 a71) = 41 then (km_agenda_114 f67_8 f67_10 a68 a71 a91 m (y2 - 1) (km_winsOf a68 (a91.getD (y2 - 1).toInt.toNat 0) y3) (f67_9 + 1)) else (Sum.inl ((km_wrongOf f67_9 1).1, f67_8, f67_9, f67_10, (km_wrongOf f67_9 1).2, a91))))
theorem t_km_agenda_114 {f : Nat} {Q : Option Value → sm_H → Prop} : ∀ (m : Nat) {B D : Nat} {F : Nat → Nat → Int32} {A : Nat → List Int32} {L : Nat → List Int64} {x1 : Int32} {y2 : Int32} {y3 : Int32}, m = (y2.toInt - 0).toNat → (∀ rr : Int32 × Int32 × Int32 × Int32 × Int32 × List Int32, (km_agenda_114 (F 67 8) (F 67 10) (A 68) (A 71) (A 91) m y2 y3 (F 67 9)) = Sum.inl rr → Q (some (.int rr.1)) (hz (uF (uF (uF (uF F 67 8 rr.2.1) 67 9 rr.2.2.1) 67 10 rr.2.2.2.1) 67 11 rr.2.2.2.2.1) (uA A 91 rr.2.2.2.2.2) L)) → (∀ ss : Int32 × Int32 × Int32, (km_agenda_114 (F 67 8) (F 67 10) (A 68) (A 71) (A 91) m y2 y3 (F 67 9)) = Sum.inr ss → wl_E f B D mm221.2.2.2.2.2.2.2.2 174 [some (.ref 67), some (.int x1), some (.int ss.1), some (.int ss.2.1)] [] (hz (uF F 67 9 ss.2.2) A L) Q) → wl_E f B D mm221.2.2.2.2.2.2.2.2 114 [some (.ref 67), some (.int x1), some (.int y2), some (.int y3)] [] (hz F A L) Q := by
  intro m
  induction m with
  | zero =>
    intro B D F A L x1 y2 y3 hm K1 K2
    generalize hT : (km_agenda_114 (F 67 8) (F 67 10) (A 68) (A 71) (A 91) 0 y2 y3 (F 67 9)) = T at K1 K2
    have hE : T = (Sum.inr (y2, y3, (F 67 9))) := hT.symm
    clear hT
    refine w_n 1 (pc1 := 115) (ls1 := [some (.ref 67), some (.int x1), some (.int y2), some (.int y3)]) (st1 := [.int y2]) (hp1 := (hz F A L)) rfl ?_
    refine w_zle (p3 := 118) rfl rfl (fun hb => ?_) (fun h => False.elim (by have h : 0 < y2.toInt := h; omega))
    subst T
    exact cvE (funext fun q => funext fun z => if k0 : q = 67 ∧ z = 9 then by obtain ⟨w1, w2⟩ := k0; subst w1; subst w2; exact Eq.trans (b := (F 67 9)) rfl rfl else by unfold uF; simp only [nb2 k0, cond_false]) rfl rfl (K2 _ rfl)
  | succ m ih =>
    intro B D F A L x1 y2 y3 hm K1 K2
    generalize hT : (km_agenda_114 (F 67 8) (F 67 10) (A 68) (A 71) (A 91) (m + 1) y2 y3 (F 67 9)) = T at K1 K2
    have hE : T = (if ((A 91).getD (y2 - 1).toInt.toNat 0) = (-1) then (Sum.inr (y2, y3, (F 67 9))) else (if (km_here (F 67 9) (F 67 10) (A 71)) = 41 then (km_agenda_114 (F 67 8) (F 67 10) (A 68) (A 71) (A 91) m (y2 - 1) (km_winsOf (A 68) ((A 91).getD (y2 - 1).toInt.toNat 0) y3) ((F 67 9) + 1)) else (Sum.inl ((km_wrongOf (F 67 9) 1).1, (F 67 8), (F 67 9), (F 67 10), (km_wrongOf (F 67 9) 1).2, (A 91))))) := hT.symm
    clear hT
    refine w_n 1 (pc1 := 115) (ls1 := [some (.ref 67), some (.int x1), some (.int y2), some (.int y3)]) (st1 := [.int y2]) (hp1 := (hz F A L)) rfl ?_
    refine w_zle (p3 := 118) rfl rfl (fun h => False.elim (by have h : y2.toInt ≤ 0 := h; omega)) (fun hb => ?_)
    refine w_n 5 (pc1 := 125) (ls1 := [some (.ref 67), some (.int x1), some (.int y2), some (.int y3)]) (st1 := [.int (y2 - 1), .ref 91]) (hp1 := (hz F A L)) rfl ?_
    refine w_al (k := 91) (l := (A 91)) rfl rfl rfl (fun _ => ?_)
    refine w_n 1 (pc1 := 127) (ls1 := [some (.ref 67), some (.int x1), some (.int y2), some (.int y3)]) (st1 := [.int (-1), .int ((A 91).getD (y2 - 1).toInt.toNat 0)]) (hp1 := (hz F A L)) rfl ?_
    refine w_eq (p3 := 130) rfl rfl (fun h => ?_) (fun h => ?_)
    · have h1 : ((A 91).getD (y2 - 1).toInt.toNat 0) = (-1) := h
      rw [if_pos h1] at hE
      subst T
      exact cvE (funext fun q => funext fun z => if k0 : q = 67 ∧ z = 9 then by obtain ⟨w1, w2⟩ := k0; subst w1; subst w2; exact Eq.trans (b := (F 67 9)) rfl rfl else by unfold uF; simp only [nb2 k0, cond_false]) rfl rfl (K2 _ rfl)
    · have h1 : ¬ ((A 91).getD (y2 - 1).toInt.toNat 0) = (-1) := h
      rw [if_neg h1] at hE
      refine w_n 1 (pc1 := 131) (ls1 := [some (.ref 67), some (.int x1), some (.int y2), some (.int y3)]) (st1 := [.ref 67]) (hp1 := (hz F A L)) rfl ?_
      refine w_c rfl rfl (t_km_here ?_)
      show wl_E f _ _ mm221.2.2.2.2.2.2.2.2 134 [some (.ref 67), some (.int x1), some (.int y2), some (.int y3)] [.int (km_here (F 67 9) (F 67 10) (A 71))] (hz F A L) _
      generalize hG457 : (km_here (F 67 9) (F 67 10) (A 71)) = G457 at hE ⊢
      refine w_n 1 (pc1 := 136) (ls1 := [some (.ref 67), some (.int x1), some (.int y2), some (.int y3)]) (st1 := [.int 41, .int G457]) (hp1 := (hz F A L)) rfl ?_
      refine w_eq (p3 := 139) rfl rfl (fun h => ?_) (fun h => ?_)
      · have h2 : G457 = 41 := h
        rw [if_pos h2] at hE
        refine w_n 5 (pc1 := 152) (ls1 := [some (.ref 67), some (.int x1), some (.int y2), some (.int y3)]) (st1 := [.int ((F 67 9) + 1), .ref 67]) (hp1 := (hz F A L)) rfl ?_
        refine w_pf (k := 67) (fs := hz_f67 F) (hp1 := (hz (uF F 67 9 ((F 67 9) + 1)) A L)) rfl rfl rfl (hz_p67_9 _) ?_
        refine w_n 8 (pc1 := 165) (ls1 := [some (.ref 67), some (.int x1), some (.int (y2 - 1)), some (.int y3)]) (st1 := [.int (y2 - 1), .ref 91, .ref 67]) (hp1 := (hz (uF F 67 9 ((F 67 9) + 1)) A L)) rfl ?_
        refine w_al (k := 91) (l := (A 91)) rfl rfl rfl (fun _ => ?_)
        refine w_n 1 (pc1 := 167) (ls1 := [some (.ref 67), some (.int x1), some (.int (y2 - 1)), some (.int y3)]) (st1 := [.int y3, .int ((A 91).getD (y2 - 1).toInt.toNat 0), .ref 67]) (hp1 := (hz (uF F 67 9 ((F 67 9) + 1)) A L)) rfl ?_
        refine w_c rfl rfl (t_km_winsOf ?_)
        show wl_E f _ _ mm221.2.2.2.2.2.2.2.2 170 [some (.ref 67), some (.int x1), some (.int (y2 - 1)), some (.int y3)] [.int (km_winsOf (A 68) ((A 91).getD (y2 - 1).toInt.toNat 0) y3)] (hz (uF F 67 9 ((F 67 9) + 1)) A L) _
        generalize hG458 : (km_winsOf (A 68) ((A 91).getD (y2 - 1).toInt.toNat 0) y3) = G458 at hE ⊢
        refine w_n 2 (pc1 := 114) (ls1 := [some (.ref 67), some (.int x1), some (.int (y2 - 1)), some (.int G458)]) (st1 := []) (hp1 := (hz (uF F 67 9 ((F 67 9) + 1)) A L)) rfl ?_
        subst T
        have hb2 := i_dn (B := (0 : Int32)) hb
        have hb3 : 0 < y2.toInt := hb
        exact ih (show m = ((y2 - 1).toInt - 0).toNat by rw [hb2]; omega) (fun rr hh => cvQ (funext fun q => funext fun z => if k0 : q = 67 ∧ z = 8 then by obtain ⟨w1, w2⟩ := k0; subst w1; subst w2; exact Eq.trans (b := rr.2.1) rfl rfl else if k1 : q = 67 ∧ z = 9 then by obtain ⟨w1, w2⟩ := k1; subst w1; subst w2; exact Eq.trans (b := rr.2.2.1) rfl rfl else if k2 : q = 67 ∧ z = 10 then by obtain ⟨w1, w2⟩ := k2; subst w1; subst w2; exact Eq.trans (b := rr.2.2.2.1) rfl rfl else if k3 : q = 67 ∧ z = 11 then by obtain ⟨w1, w2⟩ := k3; subst w1; subst w2; exact Eq.trans (b := rr.2.2.2.2.1) rfl rfl else by unfold uF; simp only [nb2 k0, nb2 k1, nb2 k2, nb2 k3, cond_false]) (funext fun q => if k0 : q = 91 then by subst k0; exact Eq.trans (b := rr.2.2.2.2.2) rfl rfl else by unfold uA; simp only [nb1 k0, cond_false]) rfl (K1 rr hh)) (fun ss hh => cvE (funext fun q => funext fun z => if k0 : q = 67 ∧ z = 9 then by obtain ⟨w1, w2⟩ := k0; subst w1; subst w2; exact Eq.trans (b := ss.2.2) rfl rfl else by unfold uF; simp only [nb2 k0, cond_false]) rfl rfl (K2 ss hh))
      · have h2 : ¬ G457 = 41 := h
        rw [if_neg h2] at hE
        refine w_n 2 (pc1 := 141) (ls1 := [some (.ref 67), some (.int x1), some (.int y2), some (.int y3)]) (st1 := [.int 1, .ref 67]) (hp1 := (hz F A L)) rfl ?_
        refine w_c rfl rfl (t_km_wrongOf ?_)
        show wl_E f _ _ mm221.2.2.2.2.2.2.2.2 144 [some (.ref 67), some (.int x1), some (.int y2), some (.int y3)] [.int (km_wrongOf (F 67 9) 1).1] (hz (uF F 67 11 (km_wrongOf (F 67 9) 1).2) A L) _
        generalize hG459 : (km_wrongOf (F 67 9) 1) = G459 at hE ⊢
        subst T
        exact w_ri rfl (cvQ (funext fun q => funext fun z => if k0 : q = 67 ∧ z = 8 then by obtain ⟨w1, w2⟩ := k0; subst w1; subst w2; exact Eq.trans (b := (F 67 8)) rfl rfl else if k1 : q = 67 ∧ z = 9 then by obtain ⟨w1, w2⟩ := k1; subst w1; subst w2; exact Eq.trans (b := (F 67 9)) rfl rfl else if k2 : q = 67 ∧ z = 10 then by obtain ⟨w1, w2⟩ := k2; subst w1; subst w2; exact Eq.trans (b := (F 67 10)) rfl rfl else if k3 : q = 67 ∧ z = 11 then by obtain ⟨w1, w2⟩ := k3; subst w1; subst w2; exact Eq.trans (b := G459.2) rfl rfl else by unfold uF; simp only [nb2 k0, nb2 k1, nb2 k2, nb2 k3, cond_false]) (funext fun q => if k0 : q = 91 then by subst k0; exact Eq.trans (b := (A 91)) rfl rfl else by unfold uA; simp only [nb1 k0, cond_false]) rfl (K1 _ rfl))
noncomputable def km_agenda_37 (f67_3 : Int32) (f67_8 : Int32) (f67_10 : Int32) (f67_11 : Int32) (a68 : List Int32) (a71 : List Int32)  : Nat → Int32 → Int32 → List Int32 → Int32 × Int32 × Int32 × Int32 × Int32 × List Int32
  | 0, _, f67_9, a91 => (0, f67_8, f67_9, f67_10, f67_11, a91)
  | m + 1, y2, f67_9, a91 => (if (km_here f67_9 f67_10 a71) = 40 then (if y2 = 8 then ((km_wrongOf f67_9 5).1, f67_8, f67_9, f67_10, (km_wrongOf f67_9 5).2, a91) else (km_agenda_37 f67_3 f67_8 f67_10 f67_11 a68 a71 m (y2 + 1) (f67_9 + 1) (a91.set y2.toInt.toNat (-1)))) else (if (km_isMeasure f67_3 ((km_here f67_9 f67_10 a71) - 97)) = 0 then ((km_wrongOf f67_9 1).1, f67_8, f67_9, f67_10, (km_wrongOf f67_9 1).2, a91) else (sE (km_agenda_114 f67_8 f67_10 a68 a71 a91 y2.toInt.toNat y2 ((km_here f67_9 f67_10 a71) - 97) (f67_9 + 1)) (fun rr1 => rr1) (fun ss1 => (if ss1.1 = 0 then (if ss1.2.2.toInt < f67_10.toInt then ((km_wrongOf ss1.2.2 1).1, f67_8, ss1.2.2, f67_10, (km_wrongOf ss1.2.2 1).2, a91) else (ss1.2.1, f67_8, ss1.2.2, f67_10, f67_11, a91)) else (km_agenda_37 f67_3 f67_8 f67_10 f67_11 a68 a71 m ss1.1 ss1.2.2 (a91.set (ss1.1 - 1).toInt.toNat ss1.2.1)))))))
theorem t_km_agenda_37 {f : Nat} {Q : Option Value → sm_H → Prop} : ∀ (m : Nat) (B : Nat) {D : Nat} {F : Nat → Nat → Int32} {A : Nat → List Int32} {L : Nat → List Int64} {x1 : Int32} {y2 : Int32} {o3 : Option Value}, B ≤ m → (Q (some (.int ((km_agenda_37 (F 67 3) (F 67 8) (F 67 10) (F 67 11) (A 68) (A 71) m y2 (F 67 9) (A 91)).1))) (hz (uF (uF (uF (uF F 67 8 ((km_agenda_37 (F 67 3) (F 67 8) (F 67 10) (F 67 11) (A 68) (A 71) m y2 (F 67 9) (A 91)).2.1)) 67 9 ((km_agenda_37 (F 67 3) (F 67 8) (F 67 10) (F 67 11) (A 68) (A 71) m y2 (F 67 9) (A 91)).2.2.1)) 67 10 ((km_agenda_37 (F 67 3) (F 67 8) (F 67 10) (F 67 11) (A 68) (A 71) m y2 (F 67 9) (A 91)).2.2.2.1)) 67 11 ((km_agenda_37 (F 67 3) (F 67 8) (F 67 10) (F 67 11) (A 68) (A 71) m y2 (F 67 9) (A 91)).2.2.2.2.1)) (uA A 91 ((km_agenda_37 (F 67 3) (F 67 8) (F 67 10) (F 67 11) (A 68) (A 71) m y2 (F 67 9) (A 91)).2.2.2.2.2)) L)) → wl_E f B D mm221.2.2.2.2.2.2.2.2 37 [some (.ref 67), some (.int x1), some (.int y2), o3] [] (hz F A L) Q := by
  intro m
  induction m with
  | zero =>
    intro B D F A L x1 y2 o3 hm K
    rw [show B = 0 by omega]
    exact w_0
  | succ m ih =>
    intro B D F A L x1 y2 o3 hm K
    cases B with
    | zero => exact w_0
    | succ B =>
      generalize hT : (km_agenda_37 (F 67 3) (F 67 8) (F 67 10) (F 67 11) (A 68) (A 71) (m + 1) y2 (F 67 9) (A 91)) = T at K
      have hE : T = (if (km_here (F 67 9) (F 67 10) (A 71)) = 40 then (if y2 = 8 then ((km_wrongOf (F 67 9) 5).1, (F 67 8), (F 67 9), (F 67 10), (km_wrongOf (F 67 9) 5).2, (A 91)) else (km_agenda_37 (F 67 3) (F 67 8) (F 67 10) (F 67 11) (A 68) (A 71) m (y2 + 1) ((F 67 9) + 1) ((A 91).set y2.toInt.toNat (-1)))) else (if (km_isMeasure (F 67 3) ((km_here (F 67 9) (F 67 10) (A 71)) - 97)) = 0 then ((km_wrongOf (F 67 9) 1).1, (F 67 8), (F 67 9), (F 67 10), (km_wrongOf (F 67 9) 1).2, (A 91)) else (sE (km_agenda_114 (F 67 8) (F 67 10) (A 68) (A 71) (A 91) y2.toInt.toNat y2 ((km_here (F 67 9) (F 67 10) (A 71)) - 97) ((F 67 9) + 1)) (fun rr1 => rr1) (fun ss1 => (if ss1.1 = 0 then (if ss1.2.2.toInt < (F 67 10).toInt then ((km_wrongOf ss1.2.2 1).1, (F 67 8), ss1.2.2, (F 67 10), (km_wrongOf ss1.2.2 1).2, (A 91)) else (ss1.2.1, (F 67 8), ss1.2.2, (F 67 10), (F 67 11), (A 91))) else (km_agenda_37 (F 67 3) (F 67 8) (F 67 10) (F 67 11) (A 68) (A 71) m ss1.1 ss1.2.2 ((A 91).set (ss1.1 - 1).toInt.toNat ss1.2.1))))))) := hT.symm
      clear hT
      refine w_n1 (pc1 := 38) (ls1 := [some (.ref 67), some (.int x1), some (.int y2), o3]) (st1 := [.ref 67]) (hp1 := (hz F A L)) rfl ?_
      refine w_c rfl rfl (t_km_here ?_)
      show wl_E f _ _ mm221.2.2.2.2.2.2.2.2 41 [some (.ref 67), some (.int x1), some (.int y2), o3] [.int (km_here (F 67 9) (F 67 10) (A 71))] (hz F A L) _
      generalize hG455 : (km_here (F 67 9) (F 67 10) (A 71)) = G455 at hE ⊢
      refine w_n 1 (pc1 := 43) (ls1 := [some (.ref 67), some (.int x1), some (.int y2), o3]) (st1 := [.int 40, .int G455]) (hp1 := (hz F A L)) rfl ?_
      refine w_ne (p3 := 46) rfl rfl (fun h => ?_) (fun h => ?_)
      · have h1 : ¬ G455 = 40 := h
        rw [if_neg h1] at hE
        refine w_n 1 (pc1 := 83) (ls1 := [some (.ref 67), some (.int x1), some (.int y2), o3]) (st1 := [.ref 67]) (hp1 := (hz F A L)) rfl ?_
        refine w_c rfl rfl (t_km_here ?_)
        show wl_E f _ _ mm221.2.2.2.2.2.2.2.2 86 [some (.ref 67), some (.int x1), some (.int y2), o3] [.int (km_here (F 67 9) (F 67 10) (A 71))] (hz F A L) _
        rw [hG455]
        refine w_n 5 (pc1 := 92) (ls1 := [some (.ref 67), some (.int x1), some (.int y2), some (.int (G455 - 97))]) (st1 := [.int (G455 - 97), .ref 67]) (hp1 := (hz F A L)) rfl ?_
        refine w_c rfl rfl (t_km_isMeasure ?_)
        show wl_E f _ _ mm221.2.2.2.2.2.2.2.2 95 [some (.ref 67), some (.int x1), some (.int y2), some (.int (G455 - 97))] [.int (km_isMeasure (F 67 3) (G455 - 97))] (hz F A L) _
        generalize hG456 : (km_isMeasure (F 67 3) (G455 - 97)) = G456 at hE ⊢
        refine w_zne (p3 := 98) rfl rfl (fun h => ?_) (fun h => ?_)
        · have h2 : ¬ G456 = 0 := h
          rw [if_neg h2] at hE
          refine w_n 5 (pc1 := 111) (ls1 := [some (.ref 67), some (.int x1), some (.int y2), some (.int (G455 - 97))]) (st1 := [.int ((F 67 9) + 1), .ref 67]) (hp1 := (hz F A L)) rfl ?_
          refine w_pf (k := 67) (fs := hz_f67 F) (hp1 := (hz (uF F 67 9 ((F 67 9) + 1)) A L)) rfl rfl rfl (hz_p67_9 _) ?_
          refine t_km_agenda_114 y2.toInt.toNat (show y2.toInt.toNat = (y2.toInt - 0).toNat by first | rfl | omega) (fun rr1 hh => ?_) (fun ss1 hh => ?_)
          · have hh : (km_agenda_114 (F 67 8) (F 67 10) (A 68) (A 71) (A 91) y2.toInt.toNat y2 (G455 - 97) ((F 67 9) + 1)) = Sum.inl rr1 := hh
            rw [hh] at hE
            replace hE : T = rr1 := hE
            subst T
            exact cvQ (funext fun q => funext fun z => if k0 : q = 67 ∧ z = 8 then by obtain ⟨w1, w2⟩ := k0; subst w1; subst w2; exact Eq.trans (b := rr1.2.1) rfl rfl else if k1 : q = 67 ∧ z = 9 then by obtain ⟨w1, w2⟩ := k1; subst w1; subst w2; exact Eq.trans (b := rr1.2.2.1) rfl rfl else if k2 : q = 67 ∧ z = 10 then by obtain ⟨w1, w2⟩ := k2; subst w1; subst w2; exact Eq.trans (b := rr1.2.2.2.1) rfl rfl else if k3 : q = 67 ∧ z = 11 then by obtain ⟨w1, w2⟩ := k3; subst w1; subst w2; exact Eq.trans (b := rr1.2.2.2.2.1) rfl rfl else by unfold uF; simp only [nb2 k0, nb2 k1, nb2 k2, nb2 k3, cond_false]) rfl rfl K
          · have hh : (km_agenda_114 (F 67 8) (F 67 10) (A 68) (A 71) (A 91) y2.toInt.toNat y2 (G455 - 97) ((F 67 9) + 1)) = Sum.inr ss1 := hh
            rw [hh] at hE
            replace hE : T = (if ss1.1 = 0 then (if ss1.2.2.toInt < (F 67 10).toInt then ((km_wrongOf ss1.2.2 1).1, (F 67 8), ss1.2.2, (F 67 10), (km_wrongOf ss1.2.2 1).2, (A 91)) else (ss1.2.1, (F 67 8), ss1.2.2, (F 67 10), (F 67 11), (A 91))) else (km_agenda_37 (F 67 3) (F 67 8) (F 67 10) (F 67 11) (A 68) (A 71) m ss1.1 ss1.2.2 ((A 91).set (ss1.1 - 1).toInt.toNat ss1.2.1))) := hE
            show wl_E f _ _ mm221.2.2.2.2.2.2.2.2 174 [some (.ref 67), some (.int x1), some (.int ss1.1), some (.int ss1.2.1)] [] (hz (uF (uF F 67 9 ((F 67 9) + 1)) 67 9 ss1.2.2) A L) _
            refine w_n 1 (pc1 := 175) (ls1 := [some (.ref 67), some (.int x1), some (.int ss1.1), some (.int ss1.2.1)]) (st1 := [.int ss1.1]) (hp1 := (hz (uF (uF F 67 9 ((F 67 9) + 1)) 67 9 ss1.2.2) A L)) rfl ?_
            refine w_zne (p3 := 178) rfl rfl (fun h => ?_) (fun h => ?_)
            · have h3 : ¬ ss1.1 = 0 := h
              rw [if_neg h3] at hE
              refine w_n 6 (pc1 := 207) (ls1 := [some (.ref 67), some (.int x1), some (.int ss1.1), some (.int ss1.2.1)]) (st1 := [.int ss1.2.1, .int (ss1.1 - 1), .ref 91]) (hp1 := (hz (uF (uF F 67 9 ((F 67 9) + 1)) 67 9 ss1.2.2) A L)) rfl ?_
              refine w_as (k := 91) (l := (A 91)) (hp1 := (hz (uF (uF F 67 9 ((F 67 9) + 1)) 67 9 ss1.2.2) (uA A 91 ((A 91).set (ss1.1 - 1).toInt.toNat ss1.2.1)) L)) rfl rfl rfl (hz_s91 _) (fun _ => ?_)
              refine w_n 1 (pc1 := 37) (ls1 := [some (.ref 67), some (.int x1), some (.int ss1.1), some (.int ss1.2.1)]) (st1 := []) (hp1 := (hz (uF (uF F 67 9 ((F 67 9) + 1)) 67 9 ss1.2.2) (uA A 91 ((A 91).set (ss1.1 - 1).toInt.toNat ss1.2.1)) L)) rfl ?_
              subst T
              exact ih _ (by omega) (cvQ (funext fun q => funext fun z => if k0 : q = 67 ∧ z = 8 then by obtain ⟨w1, w2⟩ := k0; subst w1; subst w2; exact Eq.trans (b := (km_agenda_37 (F 67 3) (F 67 8) (F 67 10) (F 67 11) (A 68) (A 71) m ss1.1 ss1.2.2 ((A 91).set (ss1.1 - 1).toInt.toNat ss1.2.1)).2.1) rfl rfl else if k1 : q = 67 ∧ z = 9 then by obtain ⟨w1, w2⟩ := k1; subst w1; subst w2; exact Eq.trans (b := (km_agenda_37 (F 67 3) (F 67 8) (F 67 10) (F 67 11) (A 68) (A 71) m ss1.1 ss1.2.2 ((A 91).set (ss1.1 - 1).toInt.toNat ss1.2.1)).2.2.1) rfl rfl else if k2 : q = 67 ∧ z = 10 then by obtain ⟨w1, w2⟩ := k2; subst w1; subst w2; exact Eq.trans (b := (km_agenda_37 (F 67 3) (F 67 8) (F 67 10) (F 67 11) (A 68) (A 71) m ss1.1 ss1.2.2 ((A 91).set (ss1.1 - 1).toInt.toNat ss1.2.1)).2.2.2.1) rfl rfl else if k3 : q = 67 ∧ z = 11 then by obtain ⟨w1, w2⟩ := k3; subst w1; subst w2; exact Eq.trans (b := (km_agenda_37 (F 67 3) (F 67 8) (F 67 10) (F 67 11) (A 68) (A 71) m ss1.1 ss1.2.2 ((A 91).set (ss1.1 - 1).toInt.toNat ss1.2.1)).2.2.2.2.1) rfl rfl else by unfold uF; simp only [nb2 k0, nb2 k1, nb2 k2, nb2 k3, cond_false]) (funext fun q => if k0 : q = 91 then by subst k0; exact Eq.trans (b := (km_agenda_37 (F 67 3) (F 67 8) (F 67 10) (F 67 11) (A 68) (A 71) m ss1.1 ss1.2.2 ((A 91).set (ss1.1 - 1).toInt.toNat ss1.2.1)).2.2.2.2.2) rfl rfl else by unfold uA; simp only [nb1 k0, cond_false]) rfl K)
            · have h3 : ss1.1 = 0 := h
              rw [if_pos h3] at hE
              refine w_n 4 (pc1 := 186) (ls1 := [some (.ref 67), some (.int x1), some (.int ss1.1), some (.int ss1.2.1)]) (st1 := [.int (F 67 10), .int ss1.2.2]) (hp1 := (hz (uF (uF F 67 9 ((F 67 9) + 1)) 67 9 ss1.2.2) A L)) rfl ?_
              refine w_ge (p3 := 189) rfl rfl (fun h => ?_) (fun h => ?_)
              · have h4 : (F 67 10).toInt ≤ ss1.2.2.toInt := h
                rw [if_neg (Int.not_lt.mpr h4)] at hE
                refine w_n 1 (pc1 := 198) (ls1 := [some (.ref 67), some (.int x1), some (.int ss1.1), some (.int ss1.2.1)]) (st1 := [.int ss1.2.1]) (hp1 := (hz (uF (uF F 67 9 ((F 67 9) + 1)) 67 9 ss1.2.2) A L)) rfl ?_
                subst T
                exact w_ri rfl (cvQ (funext fun q => funext fun z => if k0 : q = 67 ∧ z = 8 then by obtain ⟨w1, w2⟩ := k0; subst w1; subst w2; exact Eq.trans (b := (F 67 8)) rfl rfl else if k1 : q = 67 ∧ z = 9 then by obtain ⟨w1, w2⟩ := k1; subst w1; subst w2; exact Eq.trans (b := ss1.2.2) rfl rfl else if k2 : q = 67 ∧ z = 10 then by obtain ⟨w1, w2⟩ := k2; subst w1; subst w2; exact Eq.trans (b := (F 67 10)) rfl rfl else if k3 : q = 67 ∧ z = 11 then by obtain ⟨w1, w2⟩ := k3; subst w1; subst w2; exact Eq.trans (b := (F 67 11)) rfl rfl else by unfold uF; simp only [nb2 k0, nb2 k1, nb2 k2, nb2 k3, cond_false]) (funext fun q => if k0 : q = 91 then by subst k0; exact Eq.trans (b := (A 91)) rfl rfl else by unfold uA; simp only [nb1 k0, cond_false]) rfl K)
              · have h4 : ss1.2.2.toInt < (F 67 10).toInt := h
                rw [if_pos h4] at hE
                refine w_n 2 (pc1 := 191) (ls1 := [some (.ref 67), some (.int x1), some (.int ss1.1), some (.int ss1.2.1)]) (st1 := [.int 1, .ref 67]) (hp1 := (hz (uF (uF F 67 9 ((F 67 9) + 1)) 67 9 ss1.2.2) A L)) rfl ?_
                refine w_c rfl rfl (t_km_wrongOf ?_)
                show wl_E f _ _ mm221.2.2.2.2.2.2.2.2 194 [some (.ref 67), some (.int x1), some (.int ss1.1), some (.int ss1.2.1)] [.int (km_wrongOf ss1.2.2 1).1] (hz (uF (uF (uF F 67 9 ((F 67 9) + 1)) 67 9 ss1.2.2) 67 11 (km_wrongOf ss1.2.2 1).2) A L) _
                generalize hG460 : (km_wrongOf ss1.2.2 1) = G460 at hE ⊢
                refine w_n 1 (pc1 := 198) (ls1 := [some (.ref 67), some (.int x1), some (.int ss1.1), some (.int ss1.2.1)]) (st1 := [.int G460.1]) (hp1 := (hz (uF (uF (uF F 67 9 ((F 67 9) + 1)) 67 9 ss1.2.2) 67 11 G460.2) A L)) rfl ?_
                subst T
                exact w_ri rfl (cvQ (funext fun q => funext fun z => if k0 : q = 67 ∧ z = 8 then by obtain ⟨w1, w2⟩ := k0; subst w1; subst w2; exact Eq.trans (b := (F 67 8)) rfl rfl else if k1 : q = 67 ∧ z = 9 then by obtain ⟨w1, w2⟩ := k1; subst w1; subst w2; exact Eq.trans (b := ss1.2.2) rfl rfl else if k2 : q = 67 ∧ z = 10 then by obtain ⟨w1, w2⟩ := k2; subst w1; subst w2; exact Eq.trans (b := (F 67 10)) rfl rfl else if k3 : q = 67 ∧ z = 11 then by obtain ⟨w1, w2⟩ := k3; subst w1; subst w2; exact Eq.trans (b := G460.2) rfl rfl else by unfold uF; simp only [nb2 k0, nb2 k1, nb2 k2, nb2 k3, cond_false]) (funext fun q => if k0 : q = 91 then by subst k0; exact Eq.trans (b := (A 91)) rfl rfl else by unfold uA; simp only [nb1 k0, cond_false]) rfl K)
        · have h2 : G456 = 0 := h
          rw [if_pos h2] at hE
          refine w_n 2 (pc1 := 100) (ls1 := [some (.ref 67), some (.int x1), some (.int y2), some (.int (G455 - 97))]) (st1 := [.int 1, .ref 67]) (hp1 := (hz F A L)) rfl ?_
          refine w_c rfl rfl (t_km_wrongOf ?_)
          show wl_E f _ _ mm221.2.2.2.2.2.2.2.2 103 [some (.ref 67), some (.int x1), some (.int y2), some (.int (G455 - 97))] [.int (km_wrongOf (F 67 9) 1).1] (hz (uF F 67 11 (km_wrongOf (F 67 9) 1).2) A L) _
          generalize hG461 : (km_wrongOf (F 67 9) 1) = G461 at hE ⊢
          subst T
          exact w_ri rfl (cvQ (funext fun q => funext fun z => if k0 : q = 67 ∧ z = 8 then by obtain ⟨w1, w2⟩ := k0; subst w1; subst w2; exact Eq.trans (b := (F 67 8)) rfl rfl else if k1 : q = 67 ∧ z = 9 then by obtain ⟨w1, w2⟩ := k1; subst w1; subst w2; exact Eq.trans (b := (F 67 9)) rfl rfl else if k2 : q = 67 ∧ z = 10 then by obtain ⟨w1, w2⟩ := k2; subst w1; subst w2; exact Eq.trans (b := (F 67 10)) rfl rfl else if k3 : q = 67 ∧ z = 11 then by obtain ⟨w1, w2⟩ := k3; subst w1; subst w2; exact Eq.trans (b := G461.2) rfl rfl else by unfold uF; simp only [nb2 k0, nb2 k1, nb2 k2, nb2 k3, cond_false]) (funext fun q => if k0 : q = 91 then by subst k0; exact Eq.trans (b := (A 91)) rfl rfl else by unfold uA; simp only [nb1 k0, cond_false]) rfl K)
      · have h1 : G455 = 40 := h
        rw [if_pos h1] at hE
        refine w_n 2 (pc1 := 49) (ls1 := [some (.ref 67), some (.int x1), some (.int y2), o3]) (st1 := [.int 8, .int y2]) (hp1 := (hz F A L)) rfl ?_
        refine w_ne (p3 := 52) rfl rfl (fun h => ?_) (fun h => ?_)
        · have h5 : ¬ y2 = 8 := h
          rw [if_neg h5] at hE
          refine w_n 4 (pc1 := 64) (ls1 := [some (.ref 67), some (.int x1), some (.int y2), o3]) (st1 := [.int (-1), .int y2, .ref 91]) (hp1 := (hz F A L)) rfl ?_
          refine w_as (k := 91) (l := (A 91)) (hp1 := (hz F (uA A 91 ((A 91).set y2.toInt.toNat (-1))) L)) rfl rfl rfl (hz_s91 _) (fun _ => ?_)
          refine w_n 9 (pc1 := 76) (ls1 := [some (.ref 67), some (.int x1), some (.int (y2 + 1)), o3]) (st1 := [.int ((F 67 9) + 1), .ref 67]) (hp1 := (hz F (uA A 91 ((A 91).set y2.toInt.toNat (-1))) L)) rfl ?_
          refine w_pf (k := 67) (fs := hz_f67 F) (hp1 := (hz (uF F 67 9 ((F 67 9) + 1)) (uA A 91 ((A 91).set y2.toInt.toNat (-1))) L)) rfl rfl rfl (hz_p67_9 _) ?_
          refine w_n 1 (pc1 := 37) (ls1 := [some (.ref 67), some (.int x1), some (.int (y2 + 1)), o3]) (st1 := []) (hp1 := (hz (uF F 67 9 ((F 67 9) + 1)) (uA A 91 ((A 91).set y2.toInt.toNat (-1))) L)) rfl ?_
          subst T
          exact ih _ (by omega) (cvQ (funext fun q => funext fun z => if k0 : q = 67 ∧ z = 8 then by obtain ⟨w1, w2⟩ := k0; subst w1; subst w2; exact Eq.trans (b := (km_agenda_37 (F 67 3) (F 67 8) (F 67 10) (F 67 11) (A 68) (A 71) m (y2 + 1) ((F 67 9) + 1) ((A 91).set y2.toInt.toNat (-1))).2.1) rfl rfl else if k1 : q = 67 ∧ z = 9 then by obtain ⟨w1, w2⟩ := k1; subst w1; subst w2; exact Eq.trans (b := (km_agenda_37 (F 67 3) (F 67 8) (F 67 10) (F 67 11) (A 68) (A 71) m (y2 + 1) ((F 67 9) + 1) ((A 91).set y2.toInt.toNat (-1))).2.2.1) rfl rfl else if k2 : q = 67 ∧ z = 10 then by obtain ⟨w1, w2⟩ := k2; subst w1; subst w2; exact Eq.trans (b := (km_agenda_37 (F 67 3) (F 67 8) (F 67 10) (F 67 11) (A 68) (A 71) m (y2 + 1) ((F 67 9) + 1) ((A 91).set y2.toInt.toNat (-1))).2.2.2.1) rfl rfl else if k3 : q = 67 ∧ z = 11 then by obtain ⟨w1, w2⟩ := k3; subst w1; subst w2; exact Eq.trans (b := (km_agenda_37 (F 67 3) (F 67 8) (F 67 10) (F 67 11) (A 68) (A 71) m (y2 + 1) ((F 67 9) + 1) ((A 91).set y2.toInt.toNat (-1))).2.2.2.2.1) rfl rfl else by unfold uF; simp only [nb2 k0, nb2 k1, nb2 k2, nb2 k3, cond_false]) (funext fun q => if k0 : q = 91 then by subst k0; exact Eq.trans (b := (km_agenda_37 (F 67 3) (F 67 8) (F 67 10) (F 67 11) (A 68) (A 71) m (y2 + 1) ((F 67 9) + 1) ((A 91).set y2.toInt.toNat (-1))).2.2.2.2.2) rfl rfl else by unfold uA; simp only [nb1 k0, cond_false]) rfl K)
        · have h5 : y2 = 8 := h
          rw [if_pos h5] at hE
          refine w_n 2 (pc1 := 54) (ls1 := [some (.ref 67), some (.int x1), some (.int y2), o3]) (st1 := [.int 5, .ref 67]) (hp1 := (hz F A L)) rfl ?_
          refine w_c rfl rfl (t_km_wrongOf ?_)
          show wl_E f _ _ mm221.2.2.2.2.2.2.2.2 57 [some (.ref 67), some (.int x1), some (.int y2), o3] [.int (km_wrongOf (F 67 9) 5).1] (hz (uF F 67 11 (km_wrongOf (F 67 9) 5).2) A L) _
          generalize hG462 : (km_wrongOf (F 67 9) 5) = G462 at hE ⊢
          subst T
          exact w_ri rfl (cvQ (funext fun q => funext fun z => if k0 : q = 67 ∧ z = 8 then by obtain ⟨w1, w2⟩ := k0; subst w1; subst w2; exact Eq.trans (b := (F 67 8)) rfl rfl else if k1 : q = 67 ∧ z = 9 then by obtain ⟨w1, w2⟩ := k1; subst w1; subst w2; exact Eq.trans (b := (F 67 9)) rfl rfl else if k2 : q = 67 ∧ z = 10 then by obtain ⟨w1, w2⟩ := k2; subst w1; subst w2; exact Eq.trans (b := (F 67 10)) rfl rfl else if k3 : q = 67 ∧ z = 11 then by obtain ⟨w1, w2⟩ := k3; subst w1; subst w2; exact Eq.trans (b := G462.2) rfl rfl else by unfold uF; simp only [nb2 k0, nb2 k1, nb2 k2, nb2 k3, cond_false]) (funext fun q => if k0 : q = 91 then by subst k0; exact Eq.trans (b := (A 91)) rfl rfl else by unfold uA; simp only [nb1 k0, cond_false]) rfl K)
noncomputable def km_agenda (f : Nat) (f67_3 : Int32) (f67_8 : Int32) (f67_9 : Int32) (f67_10 : Int32) (f67_11 : Int32) (a68 : List Int32) (a71 : List Int32) (a91 : List Int32) (x1 : Int32) : Int32 × Int32 × Int32 × Int32 × Int32 × List Int32 := (if (km_in x1 1 60) = 0 then ((-1), f67_8, f67_9, f67_10, f67_11, a91) else (if f67_8.toInt < x1.toInt then ((-1), f67_8, f67_9, f67_10, f67_11, a91) else (km_agenda_37 f67_3 0 x1 f67_11 a68 a71 f 0 0 a91)))
theorem t_km_agenda {f D : Nat} {F : Nat → Nat → Int32} {A : Nat → List Int32} {L : Nat → List Int64} {Q : Option Value → sm_H → Prop} {x1 : Int32} (K : Q (some (.int ((km_agenda f (F 67 3) (F 67 8) (F 67 9) (F 67 10) (F 67 11) (A 68) (A 71) (A 91) x1).1))) (hz (uF (uF (uF (uF F 67 8 ((km_agenda f (F 67 3) (F 67 8) (F 67 9) (F 67 10) (F 67 11) (A 68) (A 71) (A 91) x1).2.1)) 67 9 ((km_agenda f (F 67 3) (F 67 8) (F 67 9) (F 67 10) (F 67 11) (A 68) (A 71) (A 91) x1).2.2.1)) 67 10 ((km_agenda f (F 67 3) (F 67 8) (F 67 9) (F 67 10) (F 67 11) (A 68) (A 71) (A 91) x1).2.2.2.1)) 67 11 ((km_agenda f (F 67 3) (F 67 8) (F 67 9) (F 67 10) (F 67 11) (A 68) (A 71) (A 91) x1).2.2.2.2.1)) (uA A 91 ((km_agenda f (F 67 3) (F 67 8) (F 67 9) (F 67 10) (F 67 11) (A 68) (A 71) (A 91) x1).2.2.2.2.2)) L)) : wl_M f D 221 [.ref 67, .int x1] (hz F A L) Q := by
  generalize hT : (km_agenda f (F 67 3) (F 67 8) (F 67 9) (F 67 10) (F 67 11) (A 68) (A 71) (A 91) x1) = T at K
  have hE : T = (if (km_in x1 1 60) = 0 then ((-1), (F 67 8), (F 67 9), (F 67 10), (F 67 11), (A 91)) else (if (F 67 8).toInt < x1.toInt then ((-1), (F 67 8), (F 67 9), (F 67 10), (F 67 11), (A 91)) else (km_agenda_37 (F 67 3) 0 x1 (F 67 11) (A 68) (A 71) f 0 0 (A 91)))) := hT.symm
  clear hT
  refine w_m (E := mm221) rfl ?_
  show wl_E f f (D - 1) mm221.2.2.2.2.2.2.2.2 0 [some (.ref 67), some (.int x1), none, none] [] (hz F A L) Q
  refine w_n 3 (pc1 := 4) (ls1 := [some (.ref 67), some (.int x1), none, none]) (st1 := [.int 60, .int 1, .int x1]) (hp1 := (hz F A L)) rfl ?_
  refine w_c rfl rfl (t_km_in ?_)
  show wl_E f _ _ mm221.2.2.2.2.2.2.2.2 7 [some (.ref 67), some (.int x1), none, none] [.int (km_in x1 1 60)] (hz F A L) _
  generalize hG454 : (km_in x1 1 60) = G454 at hE ⊢
  refine w_zeq (p3 := 10) rfl rfl (fun h => ?_) (fun h => ?_)
  · have h1 : G454 = 0 := h
    rw [if_pos h1] at hE
    refine w_n 1 (pc1 := 19) (ls1 := [some (.ref 67), some (.int x1), none, none]) (st1 := [.int (-1)]) (hp1 := (hz F A L)) rfl ?_
    subst T
    exact w_ri rfl (cvQ (funext fun q => funext fun z => if k0 : q = 67 ∧ z = 8 then by obtain ⟨w1, w2⟩ := k0; subst w1; subst w2; exact Eq.trans (b := (F 67 8)) rfl rfl else if k1 : q = 67 ∧ z = 9 then by obtain ⟨w1, w2⟩ := k1; subst w1; subst w2; exact Eq.trans (b := (F 67 9)) rfl rfl else if k2 : q = 67 ∧ z = 10 then by obtain ⟨w1, w2⟩ := k2; subst w1; subst w2; exact Eq.trans (b := (F 67 10)) rfl rfl else if k3 : q = 67 ∧ z = 11 then by obtain ⟨w1, w2⟩ := k3; subst w1; subst w2; exact Eq.trans (b := (F 67 11)) rfl rfl else by unfold uF; simp only [nb2 k0, nb2 k1, nb2 k2, nb2 k3, cond_false]) (funext fun q => if k0 : q = 91 then by subst k0; exact Eq.trans (b := (A 91)) rfl rfl else by unfold uA; simp only [nb1 k0, cond_false]) rfl K)
  · have h1 : ¬ G454 = 0 := h
    rw [if_neg h1] at hE
    refine w_n 3 (pc1 := 15) (ls1 := [some (.ref 67), some (.int x1), none, none]) (st1 := [.int (F 67 8), .int x1]) (hp1 := (hz F A L)) rfl ?_
    refine w_le (p3 := 18) rfl rfl (fun h => ?_) (fun h => ?_)
    · have h2 : x1.toInt ≤ (F 67 8).toInt := h
      rw [if_neg (Int.not_lt.mpr h2)] at hE
      refine w_n 2 (pc1 := 22) (ls1 := [some (.ref 67), some (.int x1), none, none]) (st1 := [.int 0, .ref 67]) (hp1 := (hz F A L)) rfl ?_
      refine w_pf (k := 67) (fs := hz_f67 F) (hp1 := (hz (uF F 67 9 0) A L)) rfl rfl rfl (hz_p67_9 _) ?_
      refine w_n 2 (pc1 := 27) (ls1 := [some (.ref 67), some (.int x1), none, none]) (st1 := [.int x1, .ref 67]) (hp1 := (hz (uF F 67 9 0) A L)) rfl ?_
      refine w_pf (k := 67) (fs := hz_f67 (uF F 67 9 0)) (hp1 := (hz (uF (uF F 67 9 0) 67 10 x1) A L)) rfl rfl rfl (hz_p67_10 _) ?_
      refine w_n 2 (pc1 := 32) (ls1 := [some (.ref 67), some (.int x1), none, none]) (st1 := [.int 0, .ref 67]) (hp1 := (hz (uF (uF F 67 9 0) 67 10 x1) A L)) rfl ?_
      refine w_pf (k := 67) (fs := hz_f67 (uF (uF F 67 9 0) 67 10 x1)) (hp1 := (hz (uF (uF (uF F 67 9 0) 67 10 x1) 67 8 0) A L)) rfl rfl rfl (hz_p67_8 _) ?_
      refine w_n 2 (pc1 := 37) (ls1 := [some (.ref 67), some (.int x1), some (.int 0), none]) (st1 := []) (hp1 := (hz (uF (uF (uF F 67 9 0) 67 10 x1) 67 8 0) A L)) rfl ?_
      subst T
      exact t_km_agenda_37 _ _ (Nat.le_refl _) (cvQ (funext fun q => funext fun z => if k0 : q = 67 ∧ z = 8 then by obtain ⟨w1, w2⟩ := k0; subst w1; subst w2; exact Eq.trans (b := (km_agenda_37 (F 67 3) 0 x1 (F 67 11) (A 68) (A 71) f 0 0 (A 91)).2.1) rfl rfl else if k1 : q = 67 ∧ z = 9 then by obtain ⟨w1, w2⟩ := k1; subst w1; subst w2; exact Eq.trans (b := (km_agenda_37 (F 67 3) 0 x1 (F 67 11) (A 68) (A 71) f 0 0 (A 91)).2.2.1) rfl rfl else if k2 : q = 67 ∧ z = 10 then by obtain ⟨w1, w2⟩ := k2; subst w1; subst w2; exact Eq.trans (b := (km_agenda_37 (F 67 3) 0 x1 (F 67 11) (A 68) (A 71) f 0 0 (A 91)).2.2.2.1) rfl rfl else if k3 : q = 67 ∧ z = 11 then by obtain ⟨w1, w2⟩ := k3; subst w1; subst w2; exact Eq.trans (b := (km_agenda_37 (F 67 3) 0 x1 (F 67 11) (A 68) (A 71) f 0 0 (A 91)).2.2.2.2.1) rfl rfl else by unfold uF; simp only [nb2 k0, nb2 k1, nb2 k2, nb2 k3, cond_false]) (funext fun q => if k0 : q = 91 then by subst k0; exact Eq.trans (b := (km_agenda_37 (F 67 3) 0 x1 (F 67 11) (A 68) (A 71) f 0 0 (A 91)).2.2.2.2.2) rfl rfl else by unfold uA; simp only [nb1 k0, cond_false]) rfl K)
    · have h2 : (F 67 8).toInt < x1.toInt := h
      rw [if_pos h2] at hE
      refine w_n 1 (pc1 := 19) (ls1 := [some (.ref 67), some (.int x1), none, none]) (st1 := [.int (-1)]) (hp1 := (hz F A L)) rfl ?_
      subst T
      exact w_ri rfl (cvQ (funext fun q => funext fun z => if k0 : q = 67 ∧ z = 8 then by obtain ⟨w1, w2⟩ := k0; subst w1; subst w2; exact Eq.trans (b := (F 67 8)) rfl rfl else if k1 : q = 67 ∧ z = 9 then by obtain ⟨w1, w2⟩ := k1; subst w1; subst w2; exact Eq.trans (b := (F 67 9)) rfl rfl else if k2 : q = 67 ∧ z = 10 then by obtain ⟨w1, w2⟩ := k2; subst w1; subst w2; exact Eq.trans (b := (F 67 10)) rfl rfl else if k3 : q = 67 ∧ z = 11 then by obtain ⟨w1, w2⟩ := k3; subst w1; subst w2; exact Eq.trans (b := (F 67 11)) rfl rfl else by unfold uF; simp only [nb2 k0, nb2 k1, nb2 k2, nb2 k3, cond_false]) (funext fun q => if k0 : q = 91 then by subst k0; exact Eq.trans (b := (A 91)) rfl rfl else by unfold uA; simp only [nb1 k0, cond_false]) rfl K)
noncomputable def kx_stands (f1_2 : Int32) (f1_3 : Int32) (f1_4 : Int32) (a2 : List Int32) (x1 : Int32) (x2 : Int32) : Int32 := (if f1_4 = 0 then (if (kx_sign f1_2 f1_3 a2) = x1 then 1 else (if (kx_sign f1_2 f1_3 a2) = x2 then 1 else 0)) else 0)
theorem t_kx_stands {f D : Nat} {F : Nat → Nat → Int32} {A : Nat → List Int32} {L : Nat → List Int64} {Q : Option Value → sm_H → Prop} {x1 : Int32} {x2 : Int32} (K : Q (some (.int (kx_stands (F 1 2) (F 1 3) (F 1 4) (A 2) x1 x2))) (hz F A L)) : wl_M f D 35 [.ref 1, .int x1, .int x2] (hz F A L) Q := by
  generalize hT : (kx_stands (F 1 2) (F 1 3) (F 1 4) (A 2) x1 x2) = T at K
  have hE : T = (if (F 1 4) = 0 then (if (kx_sign (F 1 2) (F 1 3) (A 2)) = x1 then 1 else (if (kx_sign (F 1 2) (F 1 3) (A 2)) = x2 then 1 else 0)) else 0) := hT.symm
  clear hT
  refine w_m (E := mm35) rfl ?_
  show wl_E f f (D - 1) mm35.2.2.2.2.2.2.2.2 0 [some (.ref 1), some (.int x1), some (.int x2), none] [] (hz F A L) Q
  refine w_n 1 (pc1 := 1) (ls1 := [some (.ref 1), some (.int x1), some (.int x2), none]) (st1 := [.ref 1]) (hp1 := (hz F A L)) rfl ?_
  refine w_c rfl rfl (t_kx_sign ?_)
  show wl_E f _ _ mm35.2.2.2.2.2.2.2.2 4 [some (.ref 1), some (.int x1), some (.int x2), none] [.int (kx_sign (F 1 2) (F 1 3) (A 2))] (hz F A L) _
  generalize hG466 : (kx_sign (F 1 2) (F 1 3) (A 2)) = G466 at hE ⊢
  refine w_n 3 (pc1 := 9) (ls1 := [some (.ref 1), some (.int x1), some (.int x2), some (.int G466)]) (st1 := [.int (F 1 4)]) (hp1 := (hz F A L)) rfl ?_
  refine w_zne (p3 := 12) rfl rfl (fun h => ?_) (fun h => ?_)
  · have h1 : ¬ (F 1 4) = 0 := h
    rw [if_neg h1] at hE
    refine w_n 1 (pc1 := 27) (ls1 := [some (.ref 1), some (.int x1), some (.int x2), some (.int G466)]) (st1 := [.int 0]) (hp1 := (hz F A L)) rfl ?_
    subst T
    exact w_ri rfl (cvQ rfl rfl rfl K)
  · have h1 : (F 1 4) = 0 := h
    rw [if_pos h1] at hE
    refine w_n 2 (pc1 := 14) (ls1 := [some (.ref 1), some (.int x1), some (.int x2), some (.int G466)]) (st1 := [.int x1, .int G466]) (hp1 := (hz F A L)) rfl ?_
    refine w_eq (p3 := 17) rfl rfl (fun h => ?_) (fun h => ?_)
    · have h2 : G466 = x1 := h
      rw [if_pos h2] at hE
      refine w_n 2 (pc1 := 27) (ls1 := [some (.ref 1), some (.int x1), some (.int x2), some (.int G466)]) (st1 := [.int 1]) (hp1 := (hz F A L)) rfl ?_
      subst T
      exact w_ri rfl (cvQ rfl rfl rfl K)
    · have h2 : ¬ G466 = x1 := h
      rw [if_neg h2] at hE
      refine w_n 2 (pc1 := 19) (ls1 := [some (.ref 1), some (.int x1), some (.int x2), some (.int G466)]) (st1 := [.int x2, .int G466]) (hp1 := (hz F A L)) rfl ?_
      refine w_ne (p3 := 22) rfl rfl (fun h => ?_) (fun h => ?_)
      · have h3 : ¬ G466 = x2 := h
        rw [if_neg h3] at hE
        refine w_n 1 (pc1 := 27) (ls1 := [some (.ref 1), some (.int x1), some (.int x2), some (.int G466)]) (st1 := [.int 0]) (hp1 := (hz F A L)) rfl ?_
        subst T
        exact w_ri rfl (cvQ rfl rfl rfl K)
      · have h3 : G466 = x2 := h
        rw [if_pos h3] at hE
        refine w_n 2 (pc1 := 27) (ls1 := [some (.ref 1), some (.int x1), some (.int x2), some (.int G466)]) (st1 := [.int 1]) (hp1 := (hz F A L)) rfl ?_
        subst T
        exact w_ri rfl (cvQ rfl rfl rfl K)
noncomputable def kl_add_53 (f53_1 : Int32) (a58 : List Int32) (a59 : List Int32) (x1 : Int32) (x2 : Int32) : Int32 × Int32 × List Int32 × List Int32 := (if f53_1.toInt < 240 then (((f53_1 + 1) - 1), (f53_1 + 1), (a58.set f53_1.toInt.toNat x1), (a59.set f53_1.toInt.toNat x2)) else ((-1), f53_1, a58, a59))
theorem t_kl_add_53 {f D : Nat} {F : Nat → Nat → Int32} {A : Nat → List Int32} {L : Nat → List Int64} {Q : Option Value → sm_H → Prop} {x1 : Int32} {x2 : Int32} (K : Q (some (.int ((kl_add_53 (F 53 1) (A 58) (A 59) x1 x2).1))) (hz (uF F 53 1 ((kl_add_53 (F 53 1) (A 58) (A 59) x1 x2).2.1)) (uA (uA A 58 ((kl_add_53 (F 53 1) (A 58) (A 59) x1 x2).2.2.1)) 59 ((kl_add_53 (F 53 1) (A 58) (A 59) x1 x2).2.2.2)) L)) : wl_M f D 32 [.ref 53, .int x1, .int x2] (hz F A L) Q := by
  generalize hT : (kl_add_53 (F 53 1) (A 58) (A 59) x1 x2) = T at K
  have hE : T = (if (F 53 1).toInt < 240 then ((((F 53 1) + 1) - 1), ((F 53 1) + 1), ((A 58).set (F 53 1).toInt.toNat x1), ((A 59).set (F 53 1).toInt.toNat x2)) else ((-1), (F 53 1), (A 58), (A 59))) := hT.symm
  clear hT
  refine w_m (E := mm32) rfl ?_
  show wl_E f f (D - 1) mm32.2.2.2.2.2.2.2.2 0 [some (.ref 53), some (.int x1), some (.int x2)] [] (hz F A L) Q
  refine w_n 3 (pc1 := 7) (ls1 := [some (.ref 53), some (.int x1), some (.int x2)]) (st1 := [.int 240, .int (F 53 1)]) (hp1 := (hz F A L)) rfl ?_
  refine w_lt (p3 := 10) rfl rfl (fun h => ?_) (fun h => ?_)
  · have h1 : (F 53 1).toInt < 240 := h
    rw [if_pos h1] at hE
    refine w_n 5 (pc1 := 21) (ls1 := [some (.ref 53), some (.int x1), some (.int x2)]) (st1 := [.int x1, .int (F 53 1), .ref 58]) (hp1 := (hz F A L)) rfl ?_
    refine w_as (k := 58) (l := (A 58)) (hp1 := (hz F (uA A 58 ((A 58).set (F 53 1).toInt.toNat x1)) L)) rfl rfl rfl (hz_s58 _) (fun _ => ?_)
    refine w_n 5 (pc1 := 31) (ls1 := [some (.ref 53), some (.int x1), some (.int x2)]) (st1 := [.int x2, .int (F 53 1), .ref 59]) (hp1 := (hz F (uA A 58 ((A 58).set (F 53 1).toInt.toNat x1)) L)) rfl ?_
    refine w_as (k := 59) (l := (A 59)) (hp1 := (hz F (uA (uA A 58 ((A 58).set (F 53 1).toInt.toNat x1)) 59 ((A 59).set (F 53 1).toInt.toNat x2)) L)) rfl rfl rfl (hz_s59 _) (fun _ => ?_)
    refine w_n 5 (pc1 := 39) (ls1 := [some (.ref 53), some (.int x1), some (.int x2)]) (st1 := [.int ((F 53 1) + 1), .ref 53]) (hp1 := (hz F (uA (uA A 58 ((A 58).set (F 53 1).toInt.toNat x1)) 59 ((A 59).set (F 53 1).toInt.toNat x2)) L)) rfl ?_
    refine w_pf (k := 53) (fs := hz_f53 F) (hp1 := (hz (uF F 53 1 ((F 53 1) + 1)) (uA (uA A 58 ((A 58).set (F 53 1).toInt.toNat x1)) 59 ((A 59).set (F 53 1).toInt.toNat x2)) L)) rfl rfl rfl (hz_p53_1 _) ?_
    refine w_n 4 (pc1 := 48) (ls1 := [some (.ref 53), some (.int x1), some (.int x2)]) (st1 := [.int (((F 53 1) + 1) - 1)]) (hp1 := (hz (uF F 53 1 ((F 53 1) + 1)) (uA (uA A 58 ((A 58).set (F 53 1).toInt.toNat x1)) 59 ((A 59).set (F 53 1).toInt.toNat x2)) L)) rfl ?_
    subst T
    exact w_ri rfl (cvQ rfl rfl rfl K)
  · have h1 : 240 ≤ (F 53 1).toInt := h
    rw [if_neg (Int.not_lt.mpr h1)] at hE
    refine w_n 1 (pc1 := 11) (ls1 := [some (.ref 53), some (.int x1), some (.int x2)]) (st1 := [.int (-1)]) (hp1 := (hz F A L)) rfl ?_
    subst T
    exact w_ri rfl (cvQ (funext fun q => funext fun z => if k0 : q = 53 ∧ z = 1 then by obtain ⟨w1, w2⟩ := k0; subst w1; subst w2; exact Eq.trans (b := (F 53 1)) rfl rfl else by unfold uF; simp only [nb2 k0, cond_false]) (funext fun q => if k0 : q = 58 then by subst k0; exact Eq.trans (b := (A 58)) rfl rfl else if k1 : q = 59 then by subst k1; exact Eq.trans (b := (A 59)) rfl rfl else by unfold uA; simp only [nb1 k0, nb1 k1, cond_false]) rfl K)
noncomputable def kr_readNumber_4 (f1_2 : Int32) (f1_4 : Int32) (f53_1 : Int32) (a2 : List Int32) (a58 : List Int32) (a59 : List Int32)  : Nat → Int32 → Int32 → Int32 → Int32 × Int32 × Int32 × List Int32 × List Int32
  | 0, y1, _, f1_3 => (lt (kl_add_53 f53_1 a58 a59 48 y1) (fun g474 => (f1_3, f1_4, g474.2.1, g474.2.2.1, g474.2.2.2)))
  | m + 1, y1, y2, f1_3 => (lt (kx_sign f1_2 f1_3 a2) (fun g475 => (lt (kc_within g475 48 57) (fun g476 => (if g476 = 0 then (lt (kl_add_53 f53_1 a58 a59 48 y1) (fun g477 => (f1_3, f1_4, g477.2.1, g477.2.2.1, g477.2.2.2))) else (if y2 = 5 then (lt (kx_fail f1_3 f1_4 2) (fun g478 => (f1_3, g478.2, f53_1, a58, a59))) else (kr_readNumber_4 f1_2 f1_4 f53_1 a2 a58 a59 m (((y1 * 10) + g475) - 48) (y2 + 1) (f1_3 + 1))))))))
theorem t_kr_readNumber_4 {f : Nat} {Q : Option Value → sm_H → Prop} : ∀ (m : Nat) {B D : Nat} {F : Nat → Nat → Int32} {A : Nat → List Int32} {L : Nat → List Int64} {y1 : Int32} {y2 : Int32}, m = (5 + 1 - y2.toInt).toNat → (Q none (hz (uF (uF (uF F 1 3 ((kr_readNumber_4 (F 1 2) (F 1 4) (F 53 1) (A 2) (A 58) (A 59) m y1 y2 (F 1 3)).1)) 1 4 ((kr_readNumber_4 (F 1 2) (F 1 4) (F 53 1) (A 2) (A 58) (A 59) m y1 y2 (F 1 3)).2.1)) 53 1 ((kr_readNumber_4 (F 1 2) (F 1 4) (F 53 1) (A 2) (A 58) (A 59) m y1 y2 (F 1 3)).2.2.1)) (uA (uA A 58 ((kr_readNumber_4 (F 1 2) (F 1 4) (F 53 1) (A 2) (A 58) (A 59) m y1 y2 (F 1 3)).2.2.2.1)) 59 ((kr_readNumber_4 (F 1 2) (F 1 4) (F 53 1) (A 2) (A 58) (A 59) m y1 y2 (F 1 3)).2.2.2.2)) L)) → wl_E f B D mm31.2.2.2.2.2.2.2.2 4 [some (.ref 52), some (.int y1), some (.int y2)] [] (hz F A L) Q := by
  intro m
  induction m with
  | zero =>
    intro B D F A L y1 y2 hm K
    generalize hT : (kr_readNumber_4 (F 1 2) (F 1 4) (F 53 1) (A 2) (A 58) (A 59) 0 y1 y2 (F 1 3)) = T at K
    have hE : T = (lt (kl_add_53 (F 53 1) (A 58) (A 59) 48 y1) (fun g474 => ((F 1 3), (F 1 4), g474.2.1, g474.2.2.1, g474.2.2.2))) := hT.symm
    clear hT
    refine w_n 2 (pc1 := 6) (ls1 := [some (.ref 52), some (.int y1), some (.int y2)]) (st1 := [.int 5, .int y2]) (hp1 := (hz F A L)) rfl ?_
    refine w_gt (p3 := 9) rfl rfl (fun hb => ?_) (fun h => False.elim (by have h : y2.toInt ≤ 5 := h; omega))
    refine w_n 4 (pc1 := 83) (ls1 := [some (.ref 52), some (.int y1), some (.int y2)]) (st1 := [.int y1, .int 48, .ref 53]) (hp1 := (hz F A L)) rfl ?_
    refine w_c rfl rfl (t_kl_add_53 ?_)
    show wl_E f _ _ mm31.2.2.2.2.2.2.2.2 86 [some (.ref 52), some (.int y1), some (.int y2)] [.int (kl_add_53 (F 53 1) (A 58) (A 59) 48 y1).1] (hz (uF F 53 1 (kl_add_53 (F 53 1) (A 58) (A 59) 48 y1).2.1) (uA (uA A 58 (kl_add_53 (F 53 1) (A 58) (A 59) 48 y1).2.2.1) 59 (kl_add_53 (F 53 1) (A 58) (A 59) 48 y1).2.2.2) L) _
    generalize hG474 : (kl_add_53 (F 53 1) (A 58) (A 59) 48 y1) = G474 at hE ⊢
    replace hE := hE.trans (lt_e _ _)
    refine w_n 1 (pc1 := 87) (ls1 := [some (.ref 52), some (.int y1), some (.int y2)]) (st1 := []) (hp1 := (hz (uF F 53 1 G474.2.1) (uA (uA A 58 G474.2.2.1) 59 G474.2.2.2) L)) rfl ?_
    subst T
    exact w_r rfl rfl (cvQ (funext fun q => funext fun z => if k0 : q = 1 ∧ z = 3 then by obtain ⟨w1, w2⟩ := k0; subst w1; subst w2; exact Eq.trans (b := (F 1 3)) rfl rfl else if k1 : q = 1 ∧ z = 4 then by obtain ⟨w1, w2⟩ := k1; subst w1; subst w2; exact Eq.trans (b := (F 1 4)) rfl rfl else if k2 : q = 53 ∧ z = 1 then by obtain ⟨w1, w2⟩ := k2; subst w1; subst w2; exact Eq.trans (b := G474.2.1) rfl rfl else by unfold uF; simp only [nb2 k0, nb2 k1, nb2 k2, cond_false]) rfl rfl K)
  | succ m ih =>
    intro B D F A L y1 y2 hm K
    generalize hT : (kr_readNumber_4 (F 1 2) (F 1 4) (F 53 1) (A 2) (A 58) (A 59) (m + 1) y1 y2 (F 1 3)) = T at K
    have hE : T = (lt (kx_sign (F 1 2) (F 1 3) (A 2)) (fun g475 => (lt (kc_within g475 48 57) (fun g476 => (if g476 = 0 then (lt (kl_add_53 (F 53 1) (A 58) (A 59) 48 y1) (fun g477 => ((F 1 3), (F 1 4), g477.2.1, g477.2.2.1, g477.2.2.2))) else (if y2 = 5 then (lt (kx_fail (F 1 3) (F 1 4) 2) (fun g478 => ((F 1 3), g478.2, (F 53 1), (A 58), (A 59)))) else (kr_readNumber_4 (F 1 2) (F 1 4) (F 53 1) (A 2) (A 58) (A 59) m (((y1 * 10) + g475) - 48) (y2 + 1) ((F 1 3) + 1)))))))) := hT.symm
    clear hT
    refine w_n 2 (pc1 := 6) (ls1 := [some (.ref 52), some (.int y1), some (.int y2)]) (st1 := [.int 5, .int y2]) (hp1 := (hz F A L)) rfl ?_
    refine w_gt (p3 := 9) rfl rfl (fun h => False.elim (by have h : 5 < y2.toInt := h; omega)) (fun hb => ?_)
    refine w_n 2 (pc1 := 13) (ls1 := [some (.ref 52), some (.int y1), some (.int y2)]) (st1 := [.ref 1]) (hp1 := (hz F A L)) rfl ?_
    refine w_c rfl rfl (t_kx_sign ?_)
    show wl_E f _ _ mm31.2.2.2.2.2.2.2.2 16 [some (.ref 52), some (.int y1), some (.int y2)] [.int (kx_sign (F 1 2) (F 1 3) (A 2))] (hz F A L) _
    generalize hG475 : (kx_sign (F 1 2) (F 1 3) (A 2)) = G475 at hE ⊢
    replace hE := hE.trans (lt_e _ _)
    refine w_n 2 (pc1 := 20) (ls1 := [some (.ref 52), some (.int y1), some (.int y2)]) (st1 := [.int 57, .int 48, .int G475]) (hp1 := (hz F A L)) rfl ?_
    refine w_c rfl rfl (t_kc_within ?_)
    show wl_E f _ _ mm31.2.2.2.2.2.2.2.2 23 [some (.ref 52), some (.int y1), some (.int y2)] [.int (kc_within G475 48 57)] (hz F A L) _
    generalize hG476 : (kc_within G475 48 57) = G476 at hE ⊢
    replace hE := hE.trans (lt_e _ _)
    refine w_zeq (p3 := 26) rfl rfl (fun h => ?_) (fun h => ?_)
    · have h1 : G476 = 0 := h
      rw [if_pos h1] at hE
      refine w_n 4 (pc1 := 83) (ls1 := [some (.ref 52), some (.int y1), some (.int y2)]) (st1 := [.int y1, .int 48, .ref 53]) (hp1 := (hz F A L)) rfl ?_
      refine w_c rfl rfl (t_kl_add_53 ?_)
      show wl_E f _ _ mm31.2.2.2.2.2.2.2.2 86 [some (.ref 52), some (.int y1), some (.int y2)] [.int (kl_add_53 (F 53 1) (A 58) (A 59) 48 y1).1] (hz (uF F 53 1 (kl_add_53 (F 53 1) (A 58) (A 59) 48 y1).2.1) (uA (uA A 58 (kl_add_53 (F 53 1) (A 58) (A 59) 48 y1).2.2.1) 59 (kl_add_53 (F 53 1) (A 58) (A 59) 48 y1).2.2.2) L) _
      generalize hG477 : (kl_add_53 (F 53 1) (A 58) (A 59) 48 y1) = G477 at hE ⊢
      replace hE := hE.trans (lt_e _ _)
      refine w_n 1 (pc1 := 87) (ls1 := [some (.ref 52), some (.int y1), some (.int y2)]) (st1 := []) (hp1 := (hz (uF F 53 1 G477.2.1) (uA (uA A 58 G477.2.2.1) 59 G477.2.2.2) L)) rfl ?_
      subst T
      exact w_r rfl rfl (cvQ (funext fun q => funext fun z => if k0 : q = 1 ∧ z = 3 then by obtain ⟨w1, w2⟩ := k0; subst w1; subst w2; exact Eq.trans (b := (F 1 3)) rfl rfl else if k1 : q = 1 ∧ z = 4 then by obtain ⟨w1, w2⟩ := k1; subst w1; subst w2; exact Eq.trans (b := (F 1 4)) rfl rfl else if k2 : q = 53 ∧ z = 1 then by obtain ⟨w1, w2⟩ := k2; subst w1; subst w2; exact Eq.trans (b := G477.2.1) rfl rfl else by unfold uF; simp only [nb2 k0, nb2 k1, nb2 k2, cond_false]) rfl rfl K)
    · have h1 : ¬ G476 = 0 := h
      rw [if_neg h1] at hE
      refine w_n 2 (pc1 := 28) (ls1 := [some (.ref 52), some (.int y1), some (.int y2)]) (st1 := [.int 5, .int y2]) (hp1 := (hz F A L)) rfl ?_
      refine w_ne (p3 := 31) rfl rfl (fun h => ?_) (fun h => ?_)
      · have h2 : ¬ y2 = 5 := h
        rw [if_neg h2] at hE
        refine w_n 5 (pc1 := 49) (ls1 := [some (.ref 52), some (.int y1), some (.int y2)]) (st1 := [.ref 1, .int (y1 * 10)]) (hp1 := (hz F A L)) rfl ?_
        refine w_c rfl rfl (t_kx_sign ?_)
        show wl_E f _ _ mm31.2.2.2.2.2.2.2.2 52 [some (.ref 52), some (.int y1), some (.int y2)] [.int (kx_sign (F 1 2) (F 1 3) (A 2)), .int (y1 * 10)] (hz F A L) _
        rw [hG475]
        refine w_n 10 (pc1 := 67) (ls1 := [some (.ref 52), some (.int (((y1 * 10) + G475) - 48)), some (.int y2)]) (st1 := [.int ((F 1 3) + 1), .ref 1]) (hp1 := (hz F A L)) rfl ?_
        refine w_pf (k := 1) (fs := hz_f1 F) (hp1 := (hz (uF F 1 3 ((F 1 3) + 1)) A L)) rfl rfl rfl (hz_p1_3 _) ?_
        refine w_n 2 (pc1 := 4) (ls1 := [some (.ref 52), some (.int (((y1 * 10) + G475) - 48)), some (.int (y2 + 1))]) (st1 := []) (hp1 := (hz (uF F 1 3 ((F 1 3) + 1)) A L)) rfl ?_
        subst T
        have hb2 := i_up2 (B := (5 : Int32)) hb (by first | decide | exact hB | assumption)
        have hb3 : y2.toInt ≤ 5 := hb
        exact ih (show m = (5 + 1 - (y2 + 1).toInt).toNat by rw [hb2]; omega) (cvQ (funext fun q => funext fun z => if k0 : q = 1 ∧ z = 3 then by obtain ⟨w1, w2⟩ := k0; subst w1; subst w2; exact Eq.trans (b := (kr_readNumber_4 (F 1 2) (F 1 4) (F 53 1) (A 2) (A 58) (A 59) m (((y1 * 10) + G475) - 48) (y2 + 1) ((F 1 3) + 1)).1) rfl rfl else if k1 : q = 1 ∧ z = 4 then by obtain ⟨w1, w2⟩ := k1; subst w1; subst w2; exact Eq.trans (b := (kr_readNumber_4 (F 1 2) (F 1 4) (F 53 1) (A 2) (A 58) (A 59) m (((y1 * 10) + G475) - 48) (y2 + 1) ((F 1 3) + 1)).2.1) rfl rfl else if k2 : q = 53 ∧ z = 1 then by obtain ⟨w1, w2⟩ := k2; subst w1; subst w2; exact Eq.trans (b := (kr_readNumber_4 (F 1 2) (F 1 4) (F 53 1) (A 2) (A 58) (A 59) m (((y1 * 10) + G475) - 48) (y2 + 1) ((F 1 3) + 1)).2.2.1) rfl rfl else by unfold uF; simp only [nb2 k0, nb2 k1, nb2 k2, cond_false]) (funext fun q => if k0 : q = 58 then by subst k0; exact Eq.trans (b := (kr_readNumber_4 (F 1 2) (F 1 4) (F 53 1) (A 2) (A 58) (A 59) m (((y1 * 10) + G475) - 48) (y2 + 1) ((F 1 3) + 1)).2.2.2.1) rfl rfl else if k1 : q = 59 then by subst k1; exact Eq.trans (b := (kr_readNumber_4 (F 1 2) (F 1 4) (F 53 1) (A 2) (A 58) (A 59) m (((y1 * 10) + G475) - 48) (y2 + 1) ((F 1 3) + 1)).2.2.2.2) rfl rfl else by unfold uA; simp only [nb1 k0, nb1 k1, cond_false]) rfl K)
      · have h2 : y2 = 5 := h
        rw [if_pos h2] at hE
        refine w_n 3 (pc1 := 36) (ls1 := [some (.ref 52), some (.int y1), some (.int y2)]) (st1 := [.int 2, .ref 1]) (hp1 := (hz F A L)) rfl ?_
        refine w_c rfl rfl (t_kx_fail ?_)
        show wl_E f _ _ mm31.2.2.2.2.2.2.2.2 39 [some (.ref 52), some (.int y1), some (.int y2)] [.int (kx_fail (F 1 3) (F 1 4) 2).1] (hz (uF F 1 4 (kx_fail (F 1 3) (F 1 4) 2).2) A L) _
        generalize hG478 : (kx_fail (F 1 3) (F 1 4) 2) = G478 at hE ⊢
        replace hE := hE.trans (lt_e _ _)
        refine w_n 1 (pc1 := 40) (ls1 := [some (.ref 52), some (.int y1), some (.int y2)]) (st1 := []) (hp1 := (hz (uF F 1 4 G478.2) A L)) rfl ?_
        subst T
        exact w_r rfl rfl (cvQ (funext fun q => funext fun z => if k0 : q = 1 ∧ z = 3 then by obtain ⟨w1, w2⟩ := k0; subst w1; subst w2; exact Eq.trans (b := (F 1 3)) rfl rfl else if k1 : q = 1 ∧ z = 4 then by obtain ⟨w1, w2⟩ := k1; subst w1; subst w2; exact Eq.trans (b := G478.2) rfl rfl else if k2 : q = 53 ∧ z = 1 then by obtain ⟨w1, w2⟩ := k2; subst w1; subst w2; exact Eq.trans (b := (F 53 1)) rfl rfl else by unfold uF; simp only [nb2 k0, nb2 k1, nb2 k2, cond_false]) (funext fun q => if k0 : q = 58 then by subst k0; exact Eq.trans (b := (A 58)) rfl rfl else if k1 : q = 59 then by subst k1; exact Eq.trans (b := (A 59)) rfl rfl else by unfold uA; simp only [nb1 k0, nb1 k1, cond_false]) rfl K)
noncomputable def kr_readNumber (f1_2 : Int32) (f1_3 : Int32) (f1_4 : Int32) (f53_1 : Int32) (a2 : List Int32) (a58 : List Int32) (a59 : List Int32) : Int32 × Int32 × Int32 × List Int32 × List Int32 := (kr_readNumber_4 f1_2 f1_4 f53_1 a2 a58 a59 6 0 0 f1_3)
theorem t_kr_readNumber {f D : Nat} {F : Nat → Nat → Int32} {A : Nat → List Int32} {L : Nat → List Int64} {Q : Option Value → sm_H → Prop} (K : Q none (hz (uF (uF (uF F 1 3 ((kr_readNumber (F 1 2) (F 1 3) (F 1 4) (F 53 1) (A 2) (A 58) (A 59)).1)) 1 4 ((kr_readNumber (F 1 2) (F 1 3) (F 1 4) (F 53 1) (A 2) (A 58) (A 59)).2.1)) 53 1 ((kr_readNumber (F 1 2) (F 1 3) (F 1 4) (F 53 1) (A 2) (A 58) (A 59)).2.2.1)) (uA (uA A 58 ((kr_readNumber (F 1 2) (F 1 3) (F 1 4) (F 53 1) (A 2) (A 58) (A 59)).2.2.2.1)) 59 ((kr_readNumber (F 1 2) (F 1 3) (F 1 4) (F 53 1) (A 2) (A 58) (A 59)).2.2.2.2)) L)) : wl_M f D 31 [.ref 52] (hz F A L) Q := by
  generalize hT : (kr_readNumber (F 1 2) (F 1 3) (F 1 4) (F 53 1) (A 2) (A 58) (A 59)) = T at K
  have hE : T = (kr_readNumber_4 (F 1 2) (F 1 4) (F 53 1) (A 2) (A 58) (A 59) 6 0 0 (F 1 3)) := hT.symm
  clear hT
  refine w_m (E := mm31) rfl ?_
  show wl_E f f (D - 1) mm31.2.2.2.2.2.2.2.2 0 [some (.ref 52), none, none] [] (hz F A L) Q
  refine w_n 4 (pc1 := 4) (ls1 := [some (.ref 52), some (.int 0), some (.int 0)]) (st1 := []) (hp1 := (hz F A L)) rfl ?_
  subst T
  exact t_kr_readNumber_4 _ (show (6 : Nat) = (5 + 1 - (0 : Int32).toInt).toNat by have e0 : (0 : Int32).toInt = 0 := rfl; first | rfl | omega) (cvQ (funext fun q => funext fun z => if k0 : q = 1 ∧ z = 3 then by obtain ⟨w1, w2⟩ := k0; subst w1; subst w2; exact Eq.trans (b := (kr_readNumber_4 (F 1 2) (F 1 4) (F 53 1) (A 2) (A 58) (A 59) 6 0 0 (F 1 3)).1) rfl rfl else if k1 : q = 1 ∧ z = 4 then by obtain ⟨w1, w2⟩ := k1; subst w1; subst w2; exact Eq.trans (b := (kr_readNumber_4 (F 1 2) (F 1 4) (F 53 1) (A 2) (A 58) (A 59) 6 0 0 (F 1 3)).2.1) rfl rfl else if k2 : q = 53 ∧ z = 1 then by obtain ⟨w1, w2⟩ := k2; subst w1; subst w2; exact Eq.trans (b := (kr_readNumber_4 (F 1 2) (F 1 4) (F 53 1) (A 2) (A 58) (A 59) 6 0 0 (F 1 3)).2.2.1) rfl rfl else by unfold uF; simp only [nb2 k0, nb2 k1, nb2 k2, cond_false]) (funext fun q => if k0 : q = 58 then by subst k0; exact Eq.trans (b := (kr_readNumber_4 (F 1 2) (F 1 4) (F 53 1) (A 2) (A 58) (A 59) 6 0 0 (F 1 3)).2.2.2.1) rfl rfl else if k1 : q = 59 then by subst k1; exact Eq.trans (b := (kr_readNumber_4 (F 1 2) (F 1 4) (F 53 1) (A 2) (A 58) (A 59) 6 0 0 (F 1 3)).2.2.2.2) rfl rfl else by unfold uA; simp only [nb1 k0, nb1 k1, cond_false]) rfl K)
noncomputable def kr_opens (f1_2 : Int32) (f1_3 : Int32) (f1_4 : Int32) (f52_2 : Int32) (a2 : List Int32) (x1 : Int32) : Int32 × Int32 × Int32 × Int32 := (if f1_4 = 0 then (lt (kx_sign f1_2 f1_3 a2) (fun g481 => (if g481 = x1 then (if f52_2.toInt < 6 then (lt (kx_pass f1_2 f1_3 f1_4 a2 x1) (fun g483 => (if g483.2 = 0 then (1, g483.1, g483.2, (f52_2 + 1)) else (0, g483.1, g483.2, f52_2)))) else (lt (kx_fail f1_3 f1_4 5) (fun g484 => (lt (kx_pass f1_2 f1_3 g484.2 a2 x1) (fun g485 => (if g485.2 = 0 then (1, g485.1, g485.2, (f52_2 + 1)) else (0, g485.1, g485.2, f52_2))))))) else (lt (kx_pass f1_2 f1_3 f1_4 a2 x1) (fun g482 => (if g482.2 = 0 then (1, g482.1, g482.2, (f52_2 + 1)) else (0, g482.1, g482.2, f52_2))))))) else (lt (kx_pass f1_2 f1_3 f1_4 a2 x1) (fun g480 => (if g480.2 = 0 then (1, g480.1, g480.2, (f52_2 + 1)) else (0, g480.1, g480.2, f52_2)))))
theorem t_kr_opens {f D : Nat} {F : Nat → Nat → Int32} {A : Nat → List Int32} {L : Nat → List Int64} {Q : Option Value → sm_H → Prop} {x1 : Int32} (K : Q (some (.int ((kr_opens (F 1 2) (F 1 3) (F 1 4) (F 52 2) (A 2) x1).1))) (hz (uF (uF (uF F 1 3 ((kr_opens (F 1 2) (F 1 3) (F 1 4) (F 52 2) (A 2) x1).2.1)) 1 4 ((kr_opens (F 1 2) (F 1 3) (F 1 4) (F 52 2) (A 2) x1).2.2.1)) 52 2 ((kr_opens (F 1 2) (F 1 3) (F 1 4) (F 52 2) (A 2) x1).2.2.2)) A L)) : wl_M f D 30 [.ref 52, .int x1] (hz F A L) Q := by
  generalize hT : (kr_opens (F 1 2) (F 1 3) (F 1 4) (F 52 2) (A 2) x1) = T at K
  have hE : T = (if (F 1 4) = 0 then (lt (kx_sign (F 1 2) (F 1 3) (A 2)) (fun g481 => (if g481 = x1 then (if (F 52 2).toInt < 6 then (lt (kx_pass (F 1 2) (F 1 3) (F 1 4) (A 2) x1) (fun g483 => (if g483.2 = 0 then (1, g483.1, g483.2, ((F 52 2) + 1)) else (0, g483.1, g483.2, (F 52 2))))) else (lt (kx_fail (F 1 3) (F 1 4) 5) (fun g484 => (lt (kx_pass (F 1 2) (F 1 3) g484.2 (A 2) x1) (fun g485 => (if g485.2 = 0 then (1, g485.1, g485.2, ((F 52 2) + 1)) else (0, g485.1, g485.2, (F 52 2)))))))) else (lt (kx_pass (F 1 2) (F 1 3) (F 1 4) (A 2) x1) (fun g482 => (if g482.2 = 0 then (1, g482.1, g482.2, ((F 52 2) + 1)) else (0, g482.1, g482.2, (F 52 2)))))))) else (lt (kx_pass (F 1 2) (F 1 3) (F 1 4) (A 2) x1) (fun g480 => (if g480.2 = 0 then (1, g480.1, g480.2, ((F 52 2) + 1)) else (0, g480.1, g480.2, (F 52 2)))))) := hT.symm
  clear hT
  refine w_m (E := mm30) rfl ?_
  show wl_E f f (D - 1) mm30.2.2.2.2.2.2.2.2 0 [some (.ref 52), some (.int x1)] [] (hz F A L) Q
  refine w_n 3 (pc1 := 7) (ls1 := [some (.ref 52), some (.int x1)]) (st1 := [.int (F 1 4)]) (hp1 := (hz F A L)) rfl ?_
  refine w_zne (p3 := 10) rfl rfl (fun h => ?_) (fun h => ?_)
  · have h1 : ¬ (F 1 4) = 0 := h
    rw [if_neg h1] at hE
    refine w_n 3 (pc1 := 44) (ls1 := [some (.ref 52), some (.int x1)]) (st1 := [.int x1, .ref 1]) (hp1 := (hz F A L)) rfl ?_
    refine w_c rfl rfl (t_kx_pass ?_)
    show wl_E f _ _ mm30.2.2.2.2.2.2.2.2 47 [some (.ref 52), some (.int x1)] [] (hz (uF (uF F 1 3 (kx_pass (F 1 2) (F 1 3) (F 1 4) (A 2) x1).1) 1 4 (kx_pass (F 1 2) (F 1 3) (F 1 4) (A 2) x1).2) A L) _
    generalize hG480 : (kx_pass (F 1 2) (F 1 3) (F 1 4) (A 2) x1) = G480 at hE ⊢
    replace hE := hE.trans (lt_e _ _)
    refine w_n 3 (pc1 := 54) (ls1 := [some (.ref 52), some (.int x1)]) (st1 := [.int G480.2]) (hp1 := (hz (uF (uF F 1 3 G480.1) 1 4 G480.2) A L)) rfl ?_
    refine w_zeq (p3 := 57) rfl rfl (fun h => ?_) (fun h => ?_)
    · have h2 : G480.2 = 0 := h
      rw [if_pos h2] at hE
      refine w_n 5 (pc1 := 66) (ls1 := [some (.ref 52), some (.int x1)]) (st1 := [.int ((F 52 2) + 1), .ref 52]) (hp1 := (hz (uF (uF F 1 3 G480.1) 1 4 G480.2) A L)) rfl ?_
      refine w_pf (k := 52) (fs := hz_f52 (uF (uF F 1 3 G480.1) 1 4 G480.2)) (hp1 := (hz (uF (uF (uF F 1 3 G480.1) 1 4 G480.2) 52 2 ((F 52 2) + 1)) A L)) rfl rfl rfl (hz_p52_2 _) ?_
      refine w_n 1 (pc1 := 70) (ls1 := [some (.ref 52), some (.int x1)]) (st1 := [.int 1]) (hp1 := (hz (uF (uF (uF F 1 3 G480.1) 1 4 G480.2) 52 2 ((F 52 2) + 1)) A L)) rfl ?_
      subst T
      exact w_ri rfl (cvQ rfl rfl rfl K)
    · have h2 : ¬ G480.2 = 0 := h
      rw [if_neg h2] at hE
      refine w_n 1 (pc1 := 58) (ls1 := [some (.ref 52), some (.int x1)]) (st1 := [.int 0]) (hp1 := (hz (uF (uF F 1 3 G480.1) 1 4 G480.2) A L)) rfl ?_
      subst T
      exact w_ri rfl (cvQ (funext fun q => funext fun z => if k0 : q = 1 ∧ z = 3 then by obtain ⟨w1, w2⟩ := k0; subst w1; subst w2; exact Eq.trans (b := G480.1) rfl rfl else if k1 : q = 1 ∧ z = 4 then by obtain ⟨w1, w2⟩ := k1; subst w1; subst w2; exact Eq.trans (b := G480.2) rfl rfl else if k2 : q = 52 ∧ z = 2 then by obtain ⟨w1, w2⟩ := k2; subst w1; subst w2; exact Eq.trans (b := (F 52 2)) rfl rfl else by unfold uF; simp only [nb2 k0, nb2 k1, nb2 k2, cond_false]) rfl rfl K)
  · have h1 : (F 1 4) = 0 := h
    rw [if_pos h1] at hE
    refine w_n 2 (pc1 := 14) (ls1 := [some (.ref 52), some (.int x1)]) (st1 := [.ref 1]) (hp1 := (hz F A L)) rfl ?_
    refine w_c rfl rfl (t_kx_sign ?_)
    show wl_E f _ _ mm30.2.2.2.2.2.2.2.2 17 [some (.ref 52), some (.int x1)] [.int (kx_sign (F 1 2) (F 1 3) (A 2))] (hz F A L) _
    generalize hG481 : (kx_sign (F 1 2) (F 1 3) (A 2)) = G481 at hE ⊢
    replace hE := hE.trans (lt_e _ _)
    refine w_n 1 (pc1 := 18) (ls1 := [some (.ref 52), some (.int x1)]) (st1 := [.int x1, .int G481]) (hp1 := (hz F A L)) rfl ?_
    refine w_ne (p3 := 21) rfl rfl (fun h => ?_) (fun h => ?_)
    · have h3 : ¬ G481 = x1 := h
      rw [if_neg h3] at hE
      refine w_n 3 (pc1 := 44) (ls1 := [some (.ref 52), some (.int x1)]) (st1 := [.int x1, .ref 1]) (hp1 := (hz F A L)) rfl ?_
      refine w_c rfl rfl (t_kx_pass ?_)
      show wl_E f _ _ mm30.2.2.2.2.2.2.2.2 47 [some (.ref 52), some (.int x1)] [] (hz (uF (uF F 1 3 (kx_pass (F 1 2) (F 1 3) (F 1 4) (A 2) x1).1) 1 4 (kx_pass (F 1 2) (F 1 3) (F 1 4) (A 2) x1).2) A L) _
      generalize hG482 : (kx_pass (F 1 2) (F 1 3) (F 1 4) (A 2) x1) = G482 at hE ⊢
      replace hE := hE.trans (lt_e _ _)
      refine w_n 3 (pc1 := 54) (ls1 := [some (.ref 52), some (.int x1)]) (st1 := [.int G482.2]) (hp1 := (hz (uF (uF F 1 3 G482.1) 1 4 G482.2) A L)) rfl ?_
      refine w_zeq (p3 := 57) rfl rfl (fun h => ?_) (fun h => ?_)
      · have h4 : G482.2 = 0 := h
        rw [if_pos h4] at hE
        refine w_n 5 (pc1 := 66) (ls1 := [some (.ref 52), some (.int x1)]) (st1 := [.int ((F 52 2) + 1), .ref 52]) (hp1 := (hz (uF (uF F 1 3 G482.1) 1 4 G482.2) A L)) rfl ?_
        refine w_pf (k := 52) (fs := hz_f52 (uF (uF F 1 3 G482.1) 1 4 G482.2)) (hp1 := (hz (uF (uF (uF F 1 3 G482.1) 1 4 G482.2) 52 2 ((F 52 2) + 1)) A L)) rfl rfl rfl (hz_p52_2 _) ?_
        refine w_n 1 (pc1 := 70) (ls1 := [some (.ref 52), some (.int x1)]) (st1 := [.int 1]) (hp1 := (hz (uF (uF (uF F 1 3 G482.1) 1 4 G482.2) 52 2 ((F 52 2) + 1)) A L)) rfl ?_
        subst T
        exact w_ri rfl (cvQ rfl rfl rfl K)
      · have h4 : ¬ G482.2 = 0 := h
        rw [if_neg h4] at hE
        refine w_n 1 (pc1 := 58) (ls1 := [some (.ref 52), some (.int x1)]) (st1 := [.int 0]) (hp1 := (hz (uF (uF F 1 3 G482.1) 1 4 G482.2) A L)) rfl ?_
        subst T
        exact w_ri rfl (cvQ (funext fun q => funext fun z => if k0 : q = 1 ∧ z = 3 then by obtain ⟨w1, w2⟩ := k0; subst w1; subst w2; exact Eq.trans (b := G482.1) rfl rfl else if k1 : q = 1 ∧ z = 4 then by obtain ⟨w1, w2⟩ := k1; subst w1; subst w2; exact Eq.trans (b := G482.2) rfl rfl else if k2 : q = 52 ∧ z = 2 then by obtain ⟨w1, w2⟩ := k2; subst w1; subst w2; exact Eq.trans (b := (F 52 2)) rfl rfl else by unfold uF; simp only [nb2 k0, nb2 k1, nb2 k2, cond_false]) rfl rfl K)
    · have h3 : G481 = x1 := h
      rw [if_pos h3] at hE
      refine w_n 3 (pc1 := 27) (ls1 := [some (.ref 52), some (.int x1)]) (st1 := [.int 6, .int (F 52 2)]) (hp1 := (hz F A L)) rfl ?_
      refine w_lt (p3 := 30) rfl rfl (fun h => ?_) (fun h => ?_)
      · have h5 : (F 52 2).toInt < 6 := h
        rw [if_pos h5] at hE
        refine w_n 3 (pc1 := 44) (ls1 := [some (.ref 52), some (.int x1)]) (st1 := [.int x1, .ref 1]) (hp1 := (hz F A L)) rfl ?_
        refine w_c rfl rfl (t_kx_pass ?_)
        show wl_E f _ _ mm30.2.2.2.2.2.2.2.2 47 [some (.ref 52), some (.int x1)] [] (hz (uF (uF F 1 3 (kx_pass (F 1 2) (F 1 3) (F 1 4) (A 2) x1).1) 1 4 (kx_pass (F 1 2) (F 1 3) (F 1 4) (A 2) x1).2) A L) _
        generalize hG483 : (kx_pass (F 1 2) (F 1 3) (F 1 4) (A 2) x1) = G483 at hE ⊢
        replace hE := hE.trans (lt_e _ _)
        refine w_n 3 (pc1 := 54) (ls1 := [some (.ref 52), some (.int x1)]) (st1 := [.int G483.2]) (hp1 := (hz (uF (uF F 1 3 G483.1) 1 4 G483.2) A L)) rfl ?_
        refine w_zeq (p3 := 57) rfl rfl (fun h => ?_) (fun h => ?_)
        · have h6 : G483.2 = 0 := h
          rw [if_pos h6] at hE
          refine w_n 5 (pc1 := 66) (ls1 := [some (.ref 52), some (.int x1)]) (st1 := [.int ((F 52 2) + 1), .ref 52]) (hp1 := (hz (uF (uF F 1 3 G483.1) 1 4 G483.2) A L)) rfl ?_
          refine w_pf (k := 52) (fs := hz_f52 (uF (uF F 1 3 G483.1) 1 4 G483.2)) (hp1 := (hz (uF (uF (uF F 1 3 G483.1) 1 4 G483.2) 52 2 ((F 52 2) + 1)) A L)) rfl rfl rfl (hz_p52_2 _) ?_
          refine w_n 1 (pc1 := 70) (ls1 := [some (.ref 52), some (.int x1)]) (st1 := [.int 1]) (hp1 := (hz (uF (uF (uF F 1 3 G483.1) 1 4 G483.2) 52 2 ((F 52 2) + 1)) A L)) rfl ?_
          subst T
          exact w_ri rfl (cvQ rfl rfl rfl K)
        · have h6 : ¬ G483.2 = 0 := h
          rw [if_neg h6] at hE
          refine w_n 1 (pc1 := 58) (ls1 := [some (.ref 52), some (.int x1)]) (st1 := [.int 0]) (hp1 := (hz (uF (uF F 1 3 G483.1) 1 4 G483.2) A L)) rfl ?_
          subst T
          exact w_ri rfl (cvQ (funext fun q => funext fun z => if k0 : q = 1 ∧ z = 3 then by obtain ⟨w1, w2⟩ := k0; subst w1; subst w2; exact Eq.trans (b := G483.1) rfl rfl else if k1 : q = 1 ∧ z = 4 then by obtain ⟨w1, w2⟩ := k1; subst w1; subst w2; exact Eq.trans (b := G483.2) rfl rfl else if k2 : q = 52 ∧ z = 2 then by obtain ⟨w1, w2⟩ := k2; subst w1; subst w2; exact Eq.trans (b := (F 52 2)) rfl rfl else by unfold uF; simp only [nb2 k0, nb2 k1, nb2 k2, cond_false]) rfl rfl K)
      · have h5 : 6 ≤ (F 52 2).toInt := h
        rw [if_neg (Int.not_lt.mpr h5)] at hE
        refine w_n 3 (pc1 := 35) (ls1 := [some (.ref 52), some (.int x1)]) (st1 := [.int 5, .ref 1]) (hp1 := (hz F A L)) rfl ?_
        refine w_c rfl rfl (t_kx_fail ?_)
        show wl_E f _ _ mm30.2.2.2.2.2.2.2.2 38 [some (.ref 52), some (.int x1)] [.int (kx_fail (F 1 3) (F 1 4) 5).1] (hz (uF F 1 4 (kx_fail (F 1 3) (F 1 4) 5).2) A L) _
        generalize hG484 : (kx_fail (F 1 3) (F 1 4) 5) = G484 at hE ⊢
        replace hE := hE.trans (lt_e _ _)
        refine w_n 4 (pc1 := 44) (ls1 := [some (.ref 52), some (.int x1)]) (st1 := [.int x1, .ref 1]) (hp1 := (hz (uF F 1 4 G484.2) A L)) rfl ?_
        refine w_c rfl rfl (t_kx_pass ?_)
        show wl_E f _ _ mm30.2.2.2.2.2.2.2.2 47 [some (.ref 52), some (.int x1)] [] (hz (uF (uF (uF F 1 4 G484.2) 1 3 (kx_pass (F 1 2) (F 1 3) G484.2 (A 2) x1).1) 1 4 (kx_pass (F 1 2) (F 1 3) G484.2 (A 2) x1).2) A L) _
        generalize hG485 : (kx_pass (F 1 2) (F 1 3) G484.2 (A 2) x1) = G485 at hE ⊢
        replace hE := hE.trans (lt_e _ _)
        refine w_n 3 (pc1 := 54) (ls1 := [some (.ref 52), some (.int x1)]) (st1 := [.int G485.2]) (hp1 := (hz (uF (uF (uF F 1 4 G484.2) 1 3 G485.1) 1 4 G485.2) A L)) rfl ?_
        refine w_zeq (p3 := 57) rfl rfl (fun h => ?_) (fun h => ?_)
        · have h7 : G485.2 = 0 := h
          rw [if_pos h7] at hE
          refine w_n 5 (pc1 := 66) (ls1 := [some (.ref 52), some (.int x1)]) (st1 := [.int ((F 52 2) + 1), .ref 52]) (hp1 := (hz (uF (uF (uF F 1 4 G484.2) 1 3 G485.1) 1 4 G485.2) A L)) rfl ?_
          refine w_pf (k := 52) (fs := hz_f52 (uF (uF (uF F 1 4 G484.2) 1 3 G485.1) 1 4 G485.2)) (hp1 := (hz (uF (uF (uF (uF F 1 4 G484.2) 1 3 G485.1) 1 4 G485.2) 52 2 ((F 52 2) + 1)) A L)) rfl rfl rfl (hz_p52_2 _) ?_
          refine w_n 1 (pc1 := 70) (ls1 := [some (.ref 52), some (.int x1)]) (st1 := [.int 1]) (hp1 := (hz (uF (uF (uF (uF F 1 4 G484.2) 1 3 G485.1) 1 4 G485.2) 52 2 ((F 52 2) + 1)) A L)) rfl ?_
          subst T
          exact w_ri rfl (cvQ (funext fun q => funext fun z => if k0 : q = 1 ∧ z = 3 then by obtain ⟨w1, w2⟩ := k0; subst w1; subst w2; exact Eq.trans (b := G485.1) rfl rfl else if k1 : q = 1 ∧ z = 4 then by obtain ⟨w1, w2⟩ := k1; subst w1; subst w2; exact Eq.trans (b := G485.2) rfl rfl else if k2 : q = 52 ∧ z = 2 then by obtain ⟨w1, w2⟩ := k2; subst w1; subst w2; exact Eq.trans (b := ((F 52 2) + 1)) rfl rfl else by unfold uF; simp only [nb2 k0, nb2 k1, nb2 k2, cond_false]) rfl rfl K)
        · have h7 : ¬ G485.2 = 0 := h
          rw [if_neg h7] at hE
          refine w_n 1 (pc1 := 58) (ls1 := [some (.ref 52), some (.int x1)]) (st1 := [.int 0]) (hp1 := (hz (uF (uF (uF F 1 4 G484.2) 1 3 G485.1) 1 4 G485.2) A L)) rfl ?_
          subst T
          exact w_ri rfl (cvQ (funext fun q => funext fun z => if k0 : q = 1 ∧ z = 3 then by obtain ⟨w1, w2⟩ := k0; subst w1; subst w2; exact Eq.trans (b := G485.1) rfl rfl else if k1 : q = 1 ∧ z = 4 then by obtain ⟨w1, w2⟩ := k1; subst w1; subst w2; exact Eq.trans (b := G485.2) rfl rfl else if k2 : q = 52 ∧ z = 2 then by obtain ⟨w1, w2⟩ := k2; subst w1; subst w2; exact Eq.trans (b := (F 52 2)) rfl rfl else by unfold uF; simp only [nb2 k0, nb2 k1, nb2 k2, cond_false]) rfl rfl K)
noncomputable def kr_readFactor (r : Int32 → Int32 → Int32 → Int32 → Int32 → List Int32 → List Int32 → List Int32 → (Int32 × Int32 × Int32 × Int32 × List Int32 × List Int32)) (f1_2 : Int32) (f1_3 : Int32) (f1_4 : Int32) (f52_2 : Int32) (f53_1 : Int32) (a2 : List Int32) (a58 : List Int32) (a59 : List Int32) : Int32 × Int32 × Int32 × Int32 × List Int32 × List Int32 := (if f1_4 = 0 then (lt (kx_sign f1_2 f1_3 a2) (fun g469 => (if g469 = 91 then (lt (kr_opens f1_2 f1_3 f1_4 f52_2 a2 91) (fun g486 => (if g486.1 = 0 then (g486.2.1, g486.2.2.1, g486.2.2.2, f53_1, a58, a59) else (lt (r f1_2 g486.2.1 g486.2.2.1 g486.2.2.2 f53_1 a2 a58 a59) (fun g487 => (lt (kx_pass f1_2 g487.1 g487.2.1 a2 93) (fun g488 => (g488.1, g488.2, (g487.2.2.1 - 1), g487.2.2.2.1, g487.2.2.2.2.1, g487.2.2.2.2.2)))))))) else (lt (kc_within g469 48 57) (fun g470 => (if g470 = 0 then (if g469 = (-1) then (lt (kx_fail f1_3 f1_4 1) (fun g473 => (f1_3, g473.2, f52_2, f53_1, a58, a59))) else (if (sx_ixF (g469.toUInt32 % 65536).toInt32 sx_b 0).toInt < 0 then (lt (kx_fail f1_3 f1_4 1) (fun g472 => (f1_3, g472.2, f52_2, f53_1, a58, a59))) else (lt (kl_add_53 f53_1 a58 a59 103 (sx_ixF (g469.toUInt32 % 65536).toInt32 sx_b 0)) (fun g471 => ((f1_3 + 1), f1_4, f52_2, g471.2.1, g471.2.2.1, g471.2.2.2))))) else (lt (kr_readNumber f1_2 f1_3 f1_4 f53_1 a2 a58 a59) (fun g479 => (g479.1, g479.2.1, f52_2, g479.2.2.1, g479.2.2.2.1, g479.2.2.2.2))))))))) else (f1_3, f1_4, f52_2, f53_1, a58, a59))
theorem t_kr_readFactor {f D : Nat} {n : Nat} {r : Int32 → Int32 → Int32 → Int32 → Int32 → List Int32 → List Int32 → List Int32 → (Int32 × Int32 × Int32 × Int32 × List Int32 × List Int32)} (hr : ∀ (D : Nat) {F : Nat → Nat → Int32} {A : Nat → List Int32} {L : Nat → List Int64} {Q : Option Value → sm_H → Prop}, D ≤ n → (Q none (hz (uF (uF (uF (uF F 1 3 ((r (F 1 2) (F 1 3) (F 1 4) (F 52 2) (F 53 1) (A 2) (A 58) (A 59)).1)) 1 4 ((r (F 1 2) (F 1 3) (F 1 4) (F 52 2) (F 53 1) (A 2) (A 58) (A 59)).2.1)) 52 2 ((r (F 1 2) (F 1 3) (F 1 4) (F 52 2) (F 53 1) (A 2) (A 58) (A 59)).2.2.1)) 53 1 ((r (F 1 2) (F 1 3) (F 1 4) (F 52 2) (F 53 1) (A 2) (A 58) (A 59)).2.2.2.1)) (uA (uA A 58 ((r (F 1 2) (F 1 3) (F 1 4) (F 52 2) (F 53 1) (A 2) (A 58) (A 59)).2.2.2.2.1)) 59 ((r (F 1 2) (F 1 3) (F 1 4) (F 52 2) (F 53 1) (A 2) (A 58) (A 59)).2.2.2.2.2)) L)) → wl_M f D 27 [.ref 52] (hz F A L) Q) (hnf : n ≤ f) {F : Nat → Nat → Int32} {A : Nat → List Int32} {L : Nat → List Int64} {Q : Option Value → sm_H → Prop} (hn : D ≤ n) (K : Q none (hz (uF (uF (uF (uF F 1 3 ((kr_readFactor r (F 1 2) (F 1 3) (F 1 4) (F 52 2) (F 53 1) (A 2) (A 58) (A 59)).1)) 1 4 ((kr_readFactor r (F 1 2) (F 1 3) (F 1 4) (F 52 2) (F 53 1) (A 2) (A 58) (A 59)).2.1)) 52 2 ((kr_readFactor r (F 1 2) (F 1 3) (F 1 4) (F 52 2) (F 53 1) (A 2) (A 58) (A 59)).2.2.1)) 53 1 ((kr_readFactor r (F 1 2) (F 1 3) (F 1 4) (F 52 2) (F 53 1) (A 2) (A 58) (A 59)).2.2.2.1)) (uA (uA A 58 ((kr_readFactor r (F 1 2) (F 1 3) (F 1 4) (F 52 2) (F 53 1) (A 2) (A 58) (A 59)).2.2.2.2.1)) 59 ((kr_readFactor r (F 1 2) (F 1 3) (F 1 4) (F 52 2) (F 53 1) (A 2) (A 58) (A 59)).2.2.2.2.2)) L)) : wl_M f D 29 [.ref 52] (hz F A L) Q := by
  generalize hT : (kr_readFactor r (F 1 2) (F 1 3) (F 1 4) (F 52 2) (F 53 1) (A 2) (A 58) (A 59)) = T at K
  have hE : T = (if (F 1 4) = 0 then (lt (kx_sign (F 1 2) (F 1 3) (A 2)) (fun g469 => (if g469 = 91 then (lt (kr_opens (F 1 2) (F 1 3) (F 1 4) (F 52 2) (A 2) 91) (fun g486 => (if g486.1 = 0 then (g486.2.1, g486.2.2.1, g486.2.2.2, (F 53 1), (A 58), (A 59)) else (lt (r (F 1 2) g486.2.1 g486.2.2.1 g486.2.2.2 (F 53 1) (A 2) (A 58) (A 59)) (fun g487 => (lt (kx_pass (F 1 2) g487.1 g487.2.1 (A 2) 93) (fun g488 => (g488.1, g488.2, (g487.2.2.1 - 1), g487.2.2.2.1, g487.2.2.2.2.1, g487.2.2.2.2.2)))))))) else (lt (kc_within g469 48 57) (fun g470 => (if g470 = 0 then (if g469 = (-1) then (lt (kx_fail (F 1 3) (F 1 4) 1) (fun g473 => ((F 1 3), g473.2, (F 52 2), (F 53 1), (A 58), (A 59)))) else (if (sx_ixF (g469.toUInt32 % 65536).toInt32 sx_b 0).toInt < 0 then (lt (kx_fail (F 1 3) (F 1 4) 1) (fun g472 => ((F 1 3), g472.2, (F 52 2), (F 53 1), (A 58), (A 59)))) else (lt (kl_add_53 (F 53 1) (A 58) (A 59) 103 (sx_ixF (g469.toUInt32 % 65536).toInt32 sx_b 0)) (fun g471 => (((F 1 3) + 1), (F 1 4), (F 52 2), g471.2.1, g471.2.2.1, g471.2.2.2))))) else (lt (kr_readNumber (F 1 2) (F 1 3) (F 1 4) (F 53 1) (A 2) (A 58) (A 59)) (fun g479 => (g479.1, g479.2.1, (F 52 2), g479.2.2.1, g479.2.2.2.1, g479.2.2.2.2))))))))) else ((F 1 3), (F 1 4), (F 52 2), (F 53 1), (A 58), (A 59))) := hT.symm
  clear hT
  refine w_m (E := mm29) rfl ?_
  show wl_E f f (D - 1) mm29.2.2.2.2.2.2.2.2 0 [some (.ref 52), none, none] [] (hz F A L) Q
  refine w_n 3 (pc1 := 7) (ls1 := [some (.ref 52), none, none]) (st1 := [.int (F 1 4)]) (hp1 := (hz F A L)) rfl ?_
  refine w_zeq (p3 := 10) rfl rfl (fun h => ?_) (fun h => ?_)
  · have h1 : (F 1 4) = 0 := h
    rw [if_pos h1] at hE
    refine w_n 2 (pc1 := 15) (ls1 := [some (.ref 52), none, none]) (st1 := [.ref 1]) (hp1 := (hz F A L)) rfl ?_
    refine w_c rfl rfl (t_kx_sign ?_)
    show wl_E f _ _ mm29.2.2.2.2.2.2.2.2 18 [some (.ref 52), none, none] [.int (kx_sign (F 1 2) (F 1 3) (A 2))] (hz F A L) _
    generalize hG469 : (kx_sign (F 1 2) (F 1 3) (A 2)) = G469 at hE ⊢
    replace hE := hE.trans (lt_e _ _)
    refine w_n 3 (pc1 := 22) (ls1 := [some (.ref 52), some (.int G469), none]) (st1 := [.int 91, .int G469]) (hp1 := (hz F A L)) rfl ?_
    refine w_ne (p3 := 25) rfl rfl (fun h => ?_) (fun h => ?_)
    · have h2 : ¬ G469 = 91 := h
      rw [if_neg h2] at hE
      refine w_n 3 (pc1 := 66) (ls1 := [some (.ref 52), some (.int G469), none]) (st1 := [.int 57, .int 48, .int G469]) (hp1 := (hz F A L)) rfl ?_
      refine w_c rfl rfl (t_kc_within ?_)
      show wl_E f _ _ mm29.2.2.2.2.2.2.2.2 69 [some (.ref 52), some (.int G469), none] [.int (kc_within G469 48 57)] (hz F A L) _
      generalize hG470 : (kc_within G469 48 57) = G470 at hE ⊢
      replace hE := hE.trans (lt_e _ _)
      refine w_zeq (p3 := 72) rfl rfl (fun h => ?_) (fun h => ?_)
      · have h3 : G470 = 0 := h
        rw [if_pos h3] at hE
        refine w_n 2 (pc1 := 81) (ls1 := [some (.ref 52), some (.int G469), none]) (st1 := [.int (-1), .int G469]) (hp1 := (hz F A L)) rfl ?_
        refine w_ne (p3 := 84) rfl rfl (fun h => ?_) (fun h => ?_)
        · have h4 : ¬ G469 = (-1) := h
          rw [if_neg h4] at hE
          refine w_io (x := G469) rfl rfl rfl ?_
          refine w_n 2 (pc1 := 97) (ls1 := [some (.ref 52), some (.int G469), some (.int (sx_ixF (G469.toUInt32 % 65536).toInt32 sx_b 0))]) (st1 := [.int (sx_ixF (G469.toUInt32 % 65536).toInt32 sx_b 0)]) (hp1 := (hz F A L)) rfl ?_
          refine w_zge (p3 := 100) rfl rfl (fun h => ?_) (fun h => ?_)
          · have h5 : 0 ≤ (sx_ixF (G469.toUInt32 % 65536).toInt32 sx_b 0).toInt := h
            rw [if_neg (Int.not_lt.mpr h5)] at hE
            refine w_n 6 (pc1 := 120) (ls1 := [some (.ref 52), some (.int G469), some (.int (sx_ixF (G469.toUInt32 % 65536).toInt32 sx_b 0))]) (st1 := [.int ((F 1 3) + 1), .ref 1]) (hp1 := (hz F A L)) rfl ?_
            refine w_pf (k := 1) (fs := hz_f1 F) (hp1 := (hz (uF F 1 3 ((F 1 3) + 1)) A L)) rfl rfl rfl (hz_p1_3 _) ?_
            refine w_n 4 (pc1 := 130) (ls1 := [some (.ref 52), some (.int G469), some (.int (sx_ixF (G469.toUInt32 % 65536).toInt32 sx_b 0))]) (st1 := [.int (sx_ixF (G469.toUInt32 % 65536).toInt32 sx_b 0), .int 103, .ref 53]) (hp1 := (hz (uF F 1 3 ((F 1 3) + 1)) A L)) rfl ?_
            refine w_c rfl rfl (t_kl_add_53 ?_)
            show wl_E f _ _ mm29.2.2.2.2.2.2.2.2 133 [some (.ref 52), some (.int G469), some (.int (sx_ixF (G469.toUInt32 % 65536).toInt32 sx_b 0))] [.int (kl_add_53 (F 53 1) (A 58) (A 59) 103 (sx_ixF (G469.toUInt32 % 65536).toInt32 sx_b 0)).1] (hz (uF (uF F 1 3 ((F 1 3) + 1)) 53 1 (kl_add_53 (F 53 1) (A 58) (A 59) 103 (sx_ixF (G469.toUInt32 % 65536).toInt32 sx_b 0)).2.1) (uA (uA A 58 (kl_add_53 (F 53 1) (A 58) (A 59) 103 (sx_ixF (G469.toUInt32 % 65536).toInt32 sx_b 0)).2.2.1) 59 (kl_add_53 (F 53 1) (A 58) (A 59) 103 (sx_ixF (G469.toUInt32 % 65536).toInt32 sx_b 0)).2.2.2) L) _
            generalize hG471 : (kl_add_53 (F 53 1) (A 58) (A 59) 103 (sx_ixF (G469.toUInt32 % 65536).toInt32 sx_b 0)) = G471 at hE ⊢
            replace hE := hE.trans (lt_e _ _)
            refine w_n 1 (pc1 := 134) (ls1 := [some (.ref 52), some (.int G469), some (.int (sx_ixF (G469.toUInt32 % 65536).toInt32 sx_b 0))]) (st1 := []) (hp1 := (hz (uF (uF F 1 3 ((F 1 3) + 1)) 53 1 G471.2.1) (uA (uA A 58 G471.2.2.1) 59 G471.2.2.2) L)) rfl ?_
            subst T
            exact w_r rfl rfl (cvQ (funext fun q => funext fun z => if k0 : q = 1 ∧ z = 3 then by obtain ⟨w1, w2⟩ := k0; subst w1; subst w2; exact Eq.trans (b := ((F 1 3) + 1)) rfl rfl else if k1 : q = 1 ∧ z = 4 then by obtain ⟨w1, w2⟩ := k1; subst w1; subst w2; exact Eq.trans (b := (F 1 4)) rfl rfl else if k2 : q = 52 ∧ z = 2 then by obtain ⟨w1, w2⟩ := k2; subst w1; subst w2; exact Eq.trans (b := (F 52 2)) rfl rfl else if k3 : q = 53 ∧ z = 1 then by obtain ⟨w1, w2⟩ := k3; subst w1; subst w2; exact Eq.trans (b := G471.2.1) rfl rfl else by unfold uF; simp only [nb2 k0, nb2 k1, nb2 k2, nb2 k3, cond_false]) rfl rfl K)
          · have h5 : (sx_ixF (G469.toUInt32 % 65536).toInt32 sx_b 0).toInt < 0 := h
            rw [if_pos h5] at hE
            refine w_n 3 (pc1 := 105) (ls1 := [some (.ref 52), some (.int G469), some (.int (sx_ixF (G469.toUInt32 % 65536).toInt32 sx_b 0))]) (st1 := [.int 1, .ref 1]) (hp1 := (hz F A L)) rfl ?_
            refine w_c rfl rfl (t_kx_fail ?_)
            show wl_E f _ _ mm29.2.2.2.2.2.2.2.2 108 [some (.ref 52), some (.int G469), some (.int (sx_ixF (G469.toUInt32 % 65536).toInt32 sx_b 0))] [.int (kx_fail (F 1 3) (F 1 4) 1).1] (hz (uF F 1 4 (kx_fail (F 1 3) (F 1 4) 1).2) A L) _
            generalize hG472 : (kx_fail (F 1 3) (F 1 4) 1) = G472 at hE ⊢
            replace hE := hE.trans (lt_e _ _)
            refine w_n 1 (pc1 := 109) (ls1 := [some (.ref 52), some (.int G469), some (.int (sx_ixF (G469.toUInt32 % 65536).toInt32 sx_b 0))]) (st1 := []) (hp1 := (hz (uF F 1 4 G472.2) A L)) rfl ?_
            subst T
            exact w_r rfl rfl (cvQ (funext fun q => funext fun z => if k0 : q = 1 ∧ z = 3 then by obtain ⟨w1, w2⟩ := k0; subst w1; subst w2; exact Eq.trans (b := (F 1 3)) rfl rfl else if k1 : q = 1 ∧ z = 4 then by obtain ⟨w1, w2⟩ := k1; subst w1; subst w2; exact Eq.trans (b := G472.2) rfl rfl else if k2 : q = 52 ∧ z = 2 then by obtain ⟨w1, w2⟩ := k2; subst w1; subst w2; exact Eq.trans (b := (F 52 2)) rfl rfl else if k3 : q = 53 ∧ z = 1 then by obtain ⟨w1, w2⟩ := k3; subst w1; subst w2; exact Eq.trans (b := (F 53 1)) rfl rfl else by unfold uF; simp only [nb2 k0, nb2 k1, nb2 k2, nb2 k3, cond_false]) (funext fun q => if k0 : q = 58 then by subst k0; exact Eq.trans (b := (A 58)) rfl rfl else if k1 : q = 59 then by subst k1; exact Eq.trans (b := (A 59)) rfl rfl else by unfold uA; simp only [nb1 k0, nb1 k1, cond_false]) rfl K)
        · have h4 : G469 = (-1) := h
          rw [if_pos h4] at hE
          refine w_n 4 (pc1 := 97) (ls1 := [some (.ref 52), some (.int G469), some (.int (-1))]) (st1 := [.int (-1)]) (hp1 := (hz F A L)) rfl ?_
          refine w_zge (p3 := 100) rfl rfl (fun h => absurd h (by decide)) (fun _ => ?_)
          refine w_n 3 (pc1 := 105) (ls1 := [some (.ref 52), some (.int G469), some (.int (-1))]) (st1 := [.int 1, .ref 1]) (hp1 := (hz F A L)) rfl ?_
          refine w_c rfl rfl (t_kx_fail ?_)
          show wl_E f _ _ mm29.2.2.2.2.2.2.2.2 108 [some (.ref 52), some (.int G469), some (.int (-1))] [.int (kx_fail (F 1 3) (F 1 4) 1).1] (hz (uF F 1 4 (kx_fail (F 1 3) (F 1 4) 1).2) A L) _
          generalize hG473 : (kx_fail (F 1 3) (F 1 4) 1) = G473 at hE ⊢
          replace hE := hE.trans (lt_e _ _)
          refine w_n 1 (pc1 := 109) (ls1 := [some (.ref 52), some (.int G469), some (.int (-1))]) (st1 := []) (hp1 := (hz (uF F 1 4 G473.2) A L)) rfl ?_
          subst T
          exact w_r rfl rfl (cvQ (funext fun q => funext fun z => if k0 : q = 1 ∧ z = 3 then by obtain ⟨w1, w2⟩ := k0; subst w1; subst w2; exact Eq.trans (b := (F 1 3)) rfl rfl else if k1 : q = 1 ∧ z = 4 then by obtain ⟨w1, w2⟩ := k1; subst w1; subst w2; exact Eq.trans (b := G473.2) rfl rfl else if k2 : q = 52 ∧ z = 2 then by obtain ⟨w1, w2⟩ := k2; subst w1; subst w2; exact Eq.trans (b := (F 52 2)) rfl rfl else if k3 : q = 53 ∧ z = 1 then by obtain ⟨w1, w2⟩ := k3; subst w1; subst w2; exact Eq.trans (b := (F 53 1)) rfl rfl else by unfold uF; simp only [nb2 k0, nb2 k1, nb2 k2, nb2 k3, cond_false]) (funext fun q => if k0 : q = 58 then by subst k0; exact Eq.trans (b := (A 58)) rfl rfl else if k1 : q = 59 then by subst k1; exact Eq.trans (b := (A 59)) rfl rfl else by unfold uA; simp only [nb1 k0, nb1 k1, cond_false]) rfl K)
      · have h3 : ¬ G470 = 0 := h
        rw [if_neg h3] at hE
        refine w_n 1 (pc1 := 73) (ls1 := [some (.ref 52), some (.int G469), none]) (st1 := [.ref 52]) (hp1 := (hz F A L)) rfl ?_
        refine w_c rfl rfl (t_kr_readNumber ?_)
        show wl_E f _ _ mm29.2.2.2.2.2.2.2.2 76 [some (.ref 52), some (.int G469), none] [] (hz (uF (uF (uF F 1 3 (kr_readNumber (F 1 2) (F 1 3) (F 1 4) (F 53 1) (A 2) (A 58) (A 59)).1) 1 4 (kr_readNumber (F 1 2) (F 1 3) (F 1 4) (F 53 1) (A 2) (A 58) (A 59)).2.1) 53 1 (kr_readNumber (F 1 2) (F 1 3) (F 1 4) (F 53 1) (A 2) (A 58) (A 59)).2.2.1) (uA (uA A 58 (kr_readNumber (F 1 2) (F 1 3) (F 1 4) (F 53 1) (A 2) (A 58) (A 59)).2.2.2.1) 59 (kr_readNumber (F 1 2) (F 1 3) (F 1 4) (F 53 1) (A 2) (A 58) (A 59)).2.2.2.2) L) _
        generalize hG479 : (kr_readNumber (F 1 2) (F 1 3) (F 1 4) (F 53 1) (A 2) (A 58) (A 59)) = G479 at hE ⊢
        replace hE := hE.trans (lt_e _ _)
        refine w_n 1 (pc1 := 134) (ls1 := [some (.ref 52), some (.int G469), none]) (st1 := []) (hp1 := (hz (uF (uF (uF F 1 3 G479.1) 1 4 G479.2.1) 53 1 G479.2.2.1) (uA (uA A 58 G479.2.2.2.1) 59 G479.2.2.2.2) L)) rfl ?_
        subst T
        exact w_r rfl rfl (cvQ (funext fun q => funext fun z => if k0 : q = 1 ∧ z = 3 then by obtain ⟨w1, w2⟩ := k0; subst w1; subst w2; exact Eq.trans (b := G479.1) rfl rfl else if k1 : q = 1 ∧ z = 4 then by obtain ⟨w1, w2⟩ := k1; subst w1; subst w2; exact Eq.trans (b := G479.2.1) rfl rfl else if k2 : q = 52 ∧ z = 2 then by obtain ⟨w1, w2⟩ := k2; subst w1; subst w2; exact Eq.trans (b := (F 52 2)) rfl rfl else if k3 : q = 53 ∧ z = 1 then by obtain ⟨w1, w2⟩ := k3; subst w1; subst w2; exact Eq.trans (b := G479.2.2.1) rfl rfl else by unfold uF; simp only [nb2 k0, nb2 k1, nb2 k2, nb2 k3, cond_false]) rfl rfl K)
    · have h2 : G469 = 91 := h
      rw [if_pos h2] at hE
      refine w_n 2 (pc1 := 28) (ls1 := [some (.ref 52), some (.int G469), none]) (st1 := [.int 91, .ref 52]) (hp1 := (hz F A L)) rfl ?_
      refine w_c rfl rfl (t_kr_opens ?_)
      show wl_E f _ _ mm29.2.2.2.2.2.2.2.2 31 [some (.ref 52), some (.int G469), none] [.int (kr_opens (F 1 2) (F 1 3) (F 1 4) (F 52 2) (A 2) 91).1] (hz (uF (uF (uF F 1 3 (kr_opens (F 1 2) (F 1 3) (F 1 4) (F 52 2) (A 2) 91).2.1) 1 4 (kr_opens (F 1 2) (F 1 3) (F 1 4) (F 52 2) (A 2) 91).2.2.1) 52 2 (kr_opens (F 1 2) (F 1 3) (F 1 4) (F 52 2) (A 2) 91).2.2.2) A L) _
      generalize hG486 : (kr_opens (F 1 2) (F 1 3) (F 1 4) (F 52 2) (A 2) 91) = G486 at hE ⊢
      replace hE := hE.trans (lt_e _ _)
      refine w_zne (p3 := 34) rfl rfl (fun h => ?_) (fun h => ?_)
      · have h6 : ¬ G486.1 = 0 := h
        rw [if_neg h6] at hE
        refine w_n 1 (pc1 := 36) (ls1 := [some (.ref 52), some (.int G469), none]) (st1 := [.ref 52]) (hp1 := (hz (uF (uF (uF F 1 3 G486.2.1) 1 4 G486.2.2.1) 52 2 G486.2.2.2) A L)) rfl ?_
        refine w_c rfl rfl (hr _ (by omega) ?_)
        show wl_E f _ _ mm29.2.2.2.2.2.2.2.2 39 [some (.ref 52), some (.int G469), none] [] (hz (uF (uF (uF (uF (uF (uF (uF F 1 3 G486.2.1) 1 4 G486.2.2.1) 52 2 G486.2.2.2) 1 3 (r (F 1 2) G486.2.1 G486.2.2.1 G486.2.2.2 (F 53 1) (A 2) (A 58) (A 59)).1) 1 4 (r (F 1 2) G486.2.1 G486.2.2.1 G486.2.2.2 (F 53 1) (A 2) (A 58) (A 59)).2.1) 52 2 (r (F 1 2) G486.2.1 G486.2.2.1 G486.2.2.2 (F 53 1) (A 2) (A 58) (A 59)).2.2.1) 53 1 (r (F 1 2) G486.2.1 G486.2.2.1 G486.2.2.2 (F 53 1) (A 2) (A 58) (A 59)).2.2.2.1) (uA (uA A 58 (r (F 1 2) G486.2.1 G486.2.2.1 G486.2.2.2 (F 53 1) (A 2) (A 58) (A 59)).2.2.2.2.1) 59 (r (F 1 2) G486.2.1 G486.2.2.1 G486.2.2.2 (F 53 1) (A 2) (A 58) (A 59)).2.2.2.2.2) L) _
        generalize hG487 : (r (F 1 2) G486.2.1 G486.2.2.1 G486.2.2.2 (F 53 1) (A 2) (A 58) (A 59)) = G487 at hE ⊢
        replace hE := hE.trans (lt_e _ _)
        refine w_n 3 (pc1 := 45) (ls1 := [some (.ref 52), some (.int G469), none]) (st1 := [.int 93, .ref 1]) (hp1 := (hz (uF (uF (uF (uF (uF (uF (uF F 1 3 G486.2.1) 1 4 G486.2.2.1) 52 2 G486.2.2.2) 1 3 G487.1) 1 4 G487.2.1) 52 2 G487.2.2.1) 53 1 G487.2.2.2.1) (uA (uA A 58 G487.2.2.2.2.1) 59 G487.2.2.2.2.2) L)) rfl ?_
        refine w_c rfl rfl (t_kx_pass ?_)
        show wl_E f _ _ mm29.2.2.2.2.2.2.2.2 48 [some (.ref 52), some (.int G469), none] [] (hz (uF (uF (uF (uF (uF (uF (uF (uF (uF F 1 3 G486.2.1) 1 4 G486.2.2.1) 52 2 G486.2.2.2) 1 3 G487.1) 1 4 G487.2.1) 52 2 G487.2.2.1) 53 1 G487.2.2.2.1) 1 3 (kx_pass (F 1 2) G487.1 G487.2.1 (A 2) 93).1) 1 4 (kx_pass (F 1 2) G487.1 G487.2.1 (A 2) 93).2) (uA (uA A 58 G487.2.2.2.2.1) 59 G487.2.2.2.2.2) L) _
        generalize hG488 : (kx_pass (F 1 2) G487.1 G487.2.1 (A 2) 93) = G488 at hE ⊢
        replace hE := hE.trans (lt_e _ _)
        refine w_n 5 (pc1 := 55) (ls1 := [some (.ref 52), some (.int G469), none]) (st1 := [.int (G487.2.2.1 - 1), .ref 52]) (hp1 := (hz (uF (uF (uF (uF (uF (uF (uF (uF (uF F 1 3 G486.2.1) 1 4 G486.2.2.1) 52 2 G486.2.2.2) 1 3 G487.1) 1 4 G487.2.1) 52 2 G487.2.2.1) 53 1 G487.2.2.2.1) 1 3 G488.1) 1 4 G488.2) (uA (uA A 58 G487.2.2.2.2.1) 59 G487.2.2.2.2.2) L)) rfl ?_
        refine w_pf (k := 52) (fs := hz_f52 (uF (uF (uF (uF (uF (uF (uF (uF (uF F 1 3 G486.2.1) 1 4 G486.2.2.1) 52 2 G486.2.2.2) 1 3 G487.1) 1 4 G487.2.1) 52 2 G487.2.2.1) 53 1 G487.2.2.2.1) 1 3 G488.1) 1 4 G488.2)) (hp1 := (hz (uF (uF (uF (uF (uF (uF (uF (uF (uF (uF F 1 3 G486.2.1) 1 4 G486.2.2.1) 52 2 G486.2.2.2) 1 3 G487.1) 1 4 G487.2.1) 52 2 G487.2.2.1) 53 1 G487.2.2.2.1) 1 3 G488.1) 1 4 G488.2) 52 2 (G487.2.2.1 - 1)) (uA (uA A 58 G487.2.2.2.2.1) 59 G487.2.2.2.2.2) L)) rfl rfl rfl (hz_p52_2 _) ?_
        refine w_n 1 (pc1 := 134) (ls1 := [some (.ref 52), some (.int G469), none]) (st1 := []) (hp1 := (hz (uF (uF (uF (uF (uF (uF (uF (uF (uF (uF F 1 3 G486.2.1) 1 4 G486.2.2.1) 52 2 G486.2.2.2) 1 3 G487.1) 1 4 G487.2.1) 52 2 G487.2.2.1) 53 1 G487.2.2.2.1) 1 3 G488.1) 1 4 G488.2) 52 2 (G487.2.2.1 - 1)) (uA (uA A 58 G487.2.2.2.2.1) 59 G487.2.2.2.2.2) L)) rfl ?_
        subst T
        exact w_r rfl rfl (cvQ (funext fun q => funext fun z => if k0 : q = 1 ∧ z = 3 then by obtain ⟨w1, w2⟩ := k0; subst w1; subst w2; exact Eq.trans (b := G488.1) rfl rfl else if k1 : q = 1 ∧ z = 4 then by obtain ⟨w1, w2⟩ := k1; subst w1; subst w2; exact Eq.trans (b := G488.2) rfl rfl else if k2 : q = 52 ∧ z = 2 then by obtain ⟨w1, w2⟩ := k2; subst w1; subst w2; exact Eq.trans (b := (G487.2.2.1 - 1)) rfl rfl else if k3 : q = 53 ∧ z = 1 then by obtain ⟨w1, w2⟩ := k3; subst w1; subst w2; exact Eq.trans (b := G487.2.2.2.1) rfl rfl else by unfold uF; simp only [nb2 k0, nb2 k1, nb2 k2, nb2 k3, cond_false]) rfl rfl K)
      · have h6 : G486.1 = 0 := h
        rw [if_pos h6] at hE
        subst T
        exact w_r rfl rfl (cvQ (funext fun q => funext fun z => if k0 : q = 1 ∧ z = 3 then by obtain ⟨w1, w2⟩ := k0; subst w1; subst w2; exact Eq.trans (b := G486.2.1) rfl rfl else if k1 : q = 1 ∧ z = 4 then by obtain ⟨w1, w2⟩ := k1; subst w1; subst w2; exact Eq.trans (b := G486.2.2.1) rfl rfl else if k2 : q = 52 ∧ z = 2 then by obtain ⟨w1, w2⟩ := k2; subst w1; subst w2; exact Eq.trans (b := G486.2.2.2) rfl rfl else if k3 : q = 53 ∧ z = 1 then by obtain ⟨w1, w2⟩ := k3; subst w1; subst w2; exact Eq.trans (b := (F 53 1)) rfl rfl else by unfold uF; simp only [nb2 k0, nb2 k1, nb2 k2, nb2 k3, cond_false]) (funext fun q => if k0 : q = 58 then by subst k0; exact Eq.trans (b := (A 58)) rfl rfl else if k1 : q = 59 then by subst k1; exact Eq.trans (b := (A 59)) rfl rfl else by unfold uA; simp only [nb1 k0, nb1 k1, cond_false]) rfl K)
  · have h1 : ¬ (F 1 4) = 0 := h
    rw [if_neg h1] at hE
    subst T
    exact w_r rfl rfl (cvQ (funext fun q => funext fun z => if k0 : q = 1 ∧ z = 3 then by obtain ⟨w1, w2⟩ := k0; subst w1; subst w2; exact Eq.trans (b := (F 1 3)) rfl rfl else if k1 : q = 1 ∧ z = 4 then by obtain ⟨w1, w2⟩ := k1; subst w1; subst w2; exact Eq.trans (b := (F 1 4)) rfl rfl else if k2 : q = 52 ∧ z = 2 then by obtain ⟨w1, w2⟩ := k2; subst w1; subst w2; exact Eq.trans (b := (F 52 2)) rfl rfl else if k3 : q = 53 ∧ z = 1 then by obtain ⟨w1, w2⟩ := k3; subst w1; subst w2; exact Eq.trans (b := (F 53 1)) rfl rfl else by unfold uF; simp only [nb2 k0, nb2 k1, nb2 k2, nb2 k3, cond_false]) (funext fun q => if k0 : q = 58 then by subst k0; exact Eq.trans (b := (A 58)) rfl rfl else if k1 : q = 59 then by subst k1; exact Eq.trans (b := (A 59)) rfl rfl else by unfold uA; simp only [nb1 k0, nb1 k1, cond_false]) rfl K)
