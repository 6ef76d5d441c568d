/-! the tape on both sides -/
noncomputable def R2v (n : Int32) (ta : List Int32) (n' : Int32) (tb : List Int32) : Prop := n = n' ∧ ∀ i, i < n.toInt.toNat → ta.getD i 0 = (tb.getD i 0) &&& 255
noncomputable def R2 (hp : sm_H) : Prop := R2v (exF hp 1 1) (exA hp 2) (exF hp 67 8) (exA hp 71)
noncomputable def R2c (M : List (Nat × Nat)) (W : List Nat) : Bool := [(1, 1), (67, 8)].all (fun q => !M.contains q) && [2, 71].all (fun q => !W.contains q)
theorem R2_fr {M : List (Nat × Nat)} {W : List Nat} {hp hp' : sm_H} (hc : R2c M W = true) (f : fRm M W hp hp') (h : R2 hp) : R2 hp' := by
  unfold R2c at hc
  simp only [List.all_cons, List.all_nil, Bool.and_true, Bool.and_eq_true, Bool.not_eq_true', List.contains_eq_mem, decide_eq_false_iff_not] at hc
  obtain ⟨⟨c1, c2⟩, d1, d2⟩ := hc
  obtain ⟨f1, f2, f3⟩ := f
  unfold R2
  rw [f1 _ _ c1, f1 _ _ c2, (f2 _ d1).1, (f2 _ d2).1]
  exact h
theorem R2_n {q : lw_D} {M M' : List (Nat × Nat)} {W W' : List Nat} (f : fRet q.2.2.2.1 q.2.1 0 M W) (f' : fRet q.2.2.2.2.2.1 q.2.1 67 M' W') (hc : (R2c M W && R2c M' W') = true) : opQ R2 q := fun as hp hp1 hp2 r1 r2 hl hW hI hR m1 hW1 hI1 m2 hW2 hI2 => by
  rw [Bool.and_eq_true] at hc
  exact R2_fr hc.2 (fr_use f' hl hW1 hI1 m2) (R2_fr hc.1 (fr_use f hl hW hI m1) hR)
theorem R2v_0 {ta tb : List Int32} : R2v 0 ta 0 tb := ⟨rfl, fun i hi => absurd hi (by rw [show (0 : Int32).toInt.toNat = 0 from rfl]; omega)⟩
theorem has_eq {n x a b : Int32} : kx_has n x a b = 0 ↔ ¬ (km_in x a b = 1 ∧ x.toInt ≤ n.toInt) := by
  unfold kx_has
  rw [within_in]
  have h01 : km_in x a b = 0 ∨ km_in x a b = 1 := by
    unfold km_in
    split
    · exact Or.inl rfl
    · split
      · exact Or.inl rfl
      · exact Or.inr rfl
  rcases h01 with e | e <;> rw [e]
  · rw [if_pos rfl]
    exact ⟨fun _ z => absurd z.1 (by decide), fun _ => rfl⟩
  · rw [if_neg (by decide)]
    by_cases c : n.toInt < x.toInt
    · rw [if_pos c]
      exact ⟨fun _ z => by omega, fun _ => rfl⟩
    · rw [if_neg c]
      exact ⟨fun z => absurd z (by decide), fun z => absurd ⟨rfl, by omega⟩ z⟩
theorem has_ref {n x a b : Int32} {α : Type} {u v : α} : (if km_in x a b = 0 then u else if n.toInt < x.toInt then u else v) = if kx_has n x a b = 0 then u else v := by
  unfold kx_has
  rw [within_in]
  by_cases c : km_in x a b = 0
  · rw [if_pos c, if_pos c, if_pos rfl]
  · rw [if_neg c, if_neg c]
    by_cases d : n.toInt < x.toInt
    · rw [if_pos d, if_pos d, if_pos rfl]
    · rw [if_neg d, if_neg d, if_neg (by decide)]
theorem chk_c {p q : Int32} {a b : List Int32} : ∀ (m : Nat) (i : Int32), (kc_check_27 p q a b m i).2 = p
  | 0, _ => rfl
  | m + 1, i => by
    unfold kc_check_27
    split
    · split
      · exact chk_c m _
      · rfl
    · split
      · exact chk_c m _
      · rfl
theorem chk_m {p : Int32} {a b : List Int32} : ∀ (m : Nat) (i : Int32), (km_check_28 p a b m i).2 = p
  | 0, _ => rfl
  | m + 1, i => by
    unfold km_check_28
    split
    · split
      · exact chk_m m _
      · rfl
    · split
      · exact chk_m m _
      · rfl
theorem rank_m {p q r s : Int32} {a b : List Int32} {x : Int32} : ∀ (m : Nat) (y3 y4 y5 y6 z : Int32) (c : List Int32), (km_ranking_54 p q r s a b x m y3 y4 y5 y6 z c).2.1 = q
  | 0, _, _, _, _, _, _ => by
    unfold km_ranking_54
    split <;> rfl
  | m + 1, _, _, _, _, _, _ => by
    unfold km_ranking_54
    repeat' split
    all_goals first | rfl | exact rank_m m _ _ _ _ _ _
theorem ag_m {p q r s : Int32} {a b : List Int32} : ∀ (m : Nat) (y z : Int32) (c : List Int32), (km_agenda_37 p q r s a b m y z c).2.1 = q
  | 0, _, _, _ => rfl
  | m + 1, y, z, c => by
    have h2 : ∀ (k : Nat) (u v w : Int32) (d : List Int32) (t : Int32 × Int32 × Int32 × Int32 × Int32 × List Int32), km_agenda_114 q r a b d k u v w = Sum.inl t → t.2.1 = q := by
      intro k
      induction k with
      | zero => intro u v w d t e; cases e
      | succ k ih =>
        intro u v w d t e
        unfold km_agenda_114 at e
        split at e
        · cases e
        · split at e
          · exact ih _ _ _ _ _ e
          · have e := Sum.inl.inj e
            rw [← e]
    unfold km_agenda_37
    split
    · split
      · rfl
      · exact ag_m m _ _ _
    · split
      · rfl
      · generalize hk : km_agenda_114 q r a b c y.toInt.toNat y (km_here z r b - 97) (z + 1) = t
        cases t with
        | inl t => exact h2 _ _ _ _ _ _ hk
        | inr t =>
          show (if t.1 = 0 then _ else _ : Int32 × Int32 × Int32 × Int32 × Int32 × List Int32).2.1 = q
          split
          · split <;> rfl
          · exact ag_m m _ _ _
section R2O
variable {as : List Int32} {hp hp1 hp2 : sm_H} {r1 r2 : Int32}
theorem R2_check (hl : as.length = 1) (hI : ivH IV hp) (hR : R2 hp) (m1 : EM 400 137 (.ref 0 :: as.map Value.int) hp (some (.int r1)) hp1) (hI1 : ivH IV hp1) (m2 : EM 400 249 (.ref 67 :: as.map Value.int) hp1 (some (.int r2)) hp2) : R2 hp2 := by
  obtain ⟨x, rfl⟩ := ln1 hl
  obtain ⟨-, h1⟩ := u_kc_check hI m1
  obtain ⟨-, h2⟩ := u_km_check hI1 m2
  have w : exF hp1 67 8 = exF hp 67 8 := by rw [h1]; rfl
  rw [w] at h2
  unfold km_check at h2
  unfold kc_check at h1
  rw [has_ref, ← hR.1] at h2
  by_cases c : kx_has (exF hp 1 1) x 0 12 = 0
  · rw [if_pos c] at h1 h2
    subst h2
    subst h1
    exact ⟨rfl, hR.2⟩
  · rw [if_neg c] at h1 h2
    have e1 := chk_c (p := 0) (q := exF hp 3 1) (a := exA hp 2) (b := exA hp 8) x.toInt.toNat 0
    have e2 := chk_m (p := 0) (a := exA hp1 68) (b := exA hp1 71) x.toInt.toNat 0
    rw [e1] at h1
    rw [e2] at h2
    subst h2
    subst h1
    exact R2v_0
theorem R2_ranking (hl : as.length = 2) (hI : ivH IV hp) (hR1 : R1 hp) (hR : R2 hp) (m1 : EM 400 42 (.ref 0 :: as.map Value.int) hp (some (.int r1)) hp1) (hI1 : ivH IV hp1) (m2 : EM 400 172 (.ref 67 :: as.map Value.int) hp1 (some (.int r2)) hp2) : R2 hp2 := by
  obtain ⟨x, y, rfl⟩ := ln2 hl
  obtain ⟨-, h1⟩ := u_kc_ranking hI m1
  obtain ⟨-, h2⟩ := u_km_ranking hI1 m2
  have w : exF hp1 67 8 = exF hp 1 1 := by rw [hR.1, h1]; rfl
  have w2 : exA hp1 68 = exA hp 68 := by rw [h1]; rfl
  have w3 : exA hp1 71 = exA hp 71 := by rw [h1]; rfl
  have k1 : exF hp1 1 1 = if kt_isTold (exF hp 3 1) x = 0 then exF hp 1 1 else if kx_has (exF hp 1 1) y 1 40 = 0 then exF hp 1 1 else 0 := by
    generalize hT : kc_ranking (exF hp 1 1) (exF hp 1 2) (exF hp 1 3) (exF hp 1 4) (exF hp 3 0) (exF hp 3 1) (exA hp 2) (exL hp 11) x y = T at h1
    have e : exF hp1 1 1 = T.2.1 := by rw [h1]; rfl
    rw [e, ← hT]
    unfold kc_ranking
    split
    · rfl
    · split
      · rfl
      · split <;> rfl
  have k2 : exF hp2 67 8 = if kt_isTold (exF hp 3 1) x = 0 then exF hp 1 1 else if kx_has (exF hp 1 1) y 1 40 = 0 then exF hp 1 1 else 0 := by
    generalize hT : km_ranking (exF hp1 67 3) (exF hp1 67 8) (exF hp1 67 9) (exF hp1 67 10) (exF hp1 67 11) (exA hp1 68) (exA hp1 71) (exA hp1 85) x y = T at h2
    have e : exF hp2 67 8 = T.2.1 := by rw [h2]; rfl
    rw [e, ← hT]
    unfold km_ranking
    rw [w, w2, told_same hR1.1.2.1, has_ref]
    split
    · rfl
    · split
      · rfl
      · exact rank_m _ _ _ _ _ _ _
  have k3 : exF hp2 1 1 = exF hp1 1 1 := by rw [h2]; rfl
  have k4 : exA hp2 2 = exA hp 2 := by rw [h2]; show exA hp1 2 = _; rw [h1]; rfl
  have k5 : exA hp2 71 = exA hp 71 := by rw [h2]; show exA hp1 71 = _; rw [w3]
  unfold R2
  rw [k3, k1, k2, k4, k5]
  split
  · exact ⟨rfl, hR.2⟩
  · split
    · exact ⟨rfl, hR.2⟩
    · exact R2v_0
end R2O
