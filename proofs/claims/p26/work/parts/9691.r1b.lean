/-! calls keep the table's relation -/
theorem ln0 {as : List Int32} (h : as.length = 0) : as = [] := by
  match as, h with
  | [], _ => rfl
  | _ :: _, h => cases h
theorem ln1 {as : List Int32} (h : as.length = 1) : ∃ x, as = [x] := by
  match as, h with
  | [x], _ => exact ⟨x, rfl⟩
  | [], h => cases h
  | _ :: _ :: _, h => cases h
theorem ln2 {as : List Int32} (h : as.length = 2) : ∃ x y, as = [x, y] := by
  match as, h with
  | [x, y], _ => exact ⟨x, y, rfl⟩
  | [], h => cases h
  | [_], h => cases h
  | _ :: _ :: _ :: _, h => cases h
theorem ln5 {as : List Int32} (h : as.length = 5) : ∃ x y z u v, as = [x, y, z, u, v] := by
  match as, h with
  | [x, y, z, u, v], _ => exact ⟨x, y, z, u, v, rfl⟩
  | [], h => cases h
  | [_], h => cases h
  | [_, _], h => cases h
  | [_, _, _], h => cases h
  | [_, _, _, _], h => cases h
  | _ :: _ :: _ :: _ :: _ :: _ :: _, h => cases h
section R1O
variable {as : List Int32} {hp hp1 hp2 : sm_H} {r1 r2 : Int32}
theorem bd_at {k lo hi : Nat} {a b : Int} (hI : ivH IV hp) (h : IV[k]? = some (.inl (0, [(12, a, b)]))) {i : Nat} (hi : i < 12) : a ≤ ((exA hp k).getD i 0).toInt ∧ ((exA hp k).getD i 0).toInt ≤ b := iv_ab hI h (by decide) (by
  show cond (Nat.blt i 12) (some (a, b)) none = some (a, b)
  rw [show Nat.blt i 12 = true from Nat.ble_eq.mpr hi]
  rfl)
theorem R1_guest (hl : as.length = 5) (hI : ivH IV hp) (hR : R1 hp) (m1 : EM 400 12 (.ref 0 :: as.map Value.int) hp (some (.int r1)) hp1) (hI1 : ivH IV hp1) (m2 : EM 400 143 (.ref 67 :: as.map Value.int) hp1 (some (.int r2)) hp2) : r1 = r2 ∧ R1 hp2 := by
  obtain ⟨x, y, b, u, m, rfl⟩ := ln5 hl
  obtain ⟨e1, h1⟩ := u_kc_guest hI m1
  obtain ⟨e2, h2⟩ := u_km_guest hI1 m2
  obtain ⟨p, q, z⟩ := hR
  have w : exA hp1 68 = exA hp 68 := by rw [h1]; rfl
  rw [w] at e2 h2
  have g := guest_pure (a7 := exA hp 7) (a8 := exA hp 8) (a9 := exA hp 9) (a10 := exA hp 10) (l11 := exL hp 11) (x := x) (y := y) (b := b) (u := u) (m := m) p ⟨iv_len hI rfl (by decide), iv_len hI rfl (by decide), iv_len hI rfl (by decide), iv_len hI rfl (by decide)⟩ (fun s hs => bd_at (lo := 0) (hi := 0) hI rfl hs) (fun s hs => bd_at (lo := 0) (hi := 0) hI rfl hs)
  rw [← e1, ← e2] at g
  refine ⟨g.1, ?_⟩
  subst h2
  subst h1
  exact ⟨g.2, q, z⟩
theorem R1_measures (hl : as.length = 1) (hI : ivH IV hp) (hR : R1 hp) (m1 : EM 400 9 (.ref 0 :: as.map Value.int) hp (some (.int r1)) hp1) (hI1 : ivH IV hp1) (m2 : EM 400 140 (.ref 67 :: as.map Value.int) hp1 (some (.int r2)) hp2) : R1 hp2 := by
  obtain ⟨x, rfl⟩ := ln1 hl
  obtain ⟨e1, h1⟩ := u_kc_measures hI m1
  obtain ⟨e2, h2⟩ := u_km_measures hI1 m2
  obtain ⟨p, q, z⟩ := hR
  have w : exA hp1 68 = exA hp 68 := by rw [h1]; rfl
  have w3 : exF hp1 67 3 = exF hp 67 3 := by rw [h1]; rfl
  have w6 : exF hp1 67 6 = exF hp 67 6 := by rw [h1]; rfl
  rw [w, w3, w6] at h2
  have l68 : (exA hp 68).length = 150 := iv_len hI rfl (by decide)
  unfold kc_measures at h1
  unfold km_measures at h2
  rw [within_in] at h1
  by_cases c : km_in x 2 6 = 0
  · rw [if_pos c] at h1 h2
    subst h2
    subst h1
    exact ⟨p, q, z⟩
  · rw [if_neg c] at h1 h2
    have loop : ∀ (m i : Nat) (a : List Int32), i + m = 12 → a.length = 150 → (km_measures_19 m (nI i) a).length = 150 ∧ ∀ j, ¬ (72 ≤ j ∧ j < 144) → (km_measures_19 m (nI i) a).getD j 0 = a.getD j 0 := by
      intro m
      induction m with
      | zero => intro i a hi ha; exact ⟨ha, fun _ _ => rfl⟩
      | succ m ih =>
        intro i a hi ha
        have e := nI_toInt (n := i) (by omega)
        show (km_measures_19 m (nI i + 1) (km_ranksNone a (nI i))).length = 150 ∧ ∀ j, ¬ (72 ≤ j ∧ j < 144) → (km_measures_19 m (nI i + 1) (km_ranksNone a (nI i))).getD j 0 = a.getD j 0
        rw [nJ_1 (by omega)]
        obtain ⟨q1, q2⟩ := ih (i + 1) (km_ranksNone a (nI i)) (by omega) (ranksNone_gd (j := 0) e (by omega) ha (by omega)).2
        exact ⟨q1, fun j hj => (q2 j hj).trans (ranksNone_gd e (by omega) ha (by omega)).1⟩
    obtain ⟨q1, q2⟩ := loop 12 0 (exA hp 68) rfl l68
    have q3 : ∀ j, ¬ (72 ≤ j ∧ j < 144) → j ≠ 146 → ((km_measures_19 12 0 (exA hp 68)).set 146 0).getD j 0 = (exA hp 68).getD j 0 := fun j hj hn => by
      have q1' : (km_measures_19 12 0 (exA hp 68)).length = 150 := q1
      rw [gd_set (by omega), if_neg hn]
      exact q2 j hj
    obtain ⟨p1, p2, p3, p4, p5⟩ := p
    have r : R1v x (exF hp 3 1) (exA hp 4) (exA hp 5) (exA hp 6) x ((km_measures_19 12 0 (exA hp 68)).set 146 0) := ⟨rfl, by rw [q3 144 (by omega) (by decide)]; exact p2, fun g hg => by rw [q3 g (by omega) (by omega)]; exact p3 g hg, fun g hg => by rw [q3 (12 + g) (by omega) (by omega)]; exact p4 g hg, p5⟩
    generalize (km_measures_19 12 0 (exA hp 68)).set 146 0 = nw at r h2
    generalize kja_fill_11 (exL hp 11) 0 = nl at h1
    subst h2
    subst h1
    exact ⟨r, rfl, fun n => absurd n (by decide : ¬ (0 : Int32) = 1)⟩
theorem R1_keep (hl : as.length = 0) (hI : ivH IV hp) (hR : R1 hp) (m1 : EM 400 135 (.ref 0 :: as.map Value.int) hp (some (.int r1)) hp1) (hI1 : ivH IV hp1) (m2 : EM 400 247 (.ref 67 :: as.map Value.int) hp1 (some (.int r2)) hp2) : R1 hp2 := by
  obtain rfl := ln0 hl
  obtain ⟨e1, h1⟩ := u_kc_keep hI m1
  obtain ⟨e2, h2⟩ := u_km_keep hI1 m2
  obtain ⟨p, q, z⟩ := hR
  have w : exA hp1 68 = exA hp 68 := by rw [h1]; rfl
  have w2 : exA hp1 70 = exA hp 70 := by rw [h1]; rfl
  rw [w, w2] at h2
  unfold km_keep at h2
  unfold kc_keep kt_copyFrom_12_3 at h1
  rw [co_68_70 (iv_len hI rfl (by decide)) (iv_len hI rfl (by decide))] at h2
  rw [cpy12 (iv_len hI rfl (by decide)) (iv_len hI rfl (by decide)), cpy12 (iv_len hI rfl (by decide)) (iv_len hI rfl (by decide)), cpy12 (iv_len hI rfl (by decide)) (iv_len hI rfl (by decide))] at h1
  subst h2
  subst h1
  exact ⟨p, rfl, fun _ => p⟩
theorem R1_undo (hl : as.length = 0) (hI : ivH IV hp) (hR : R1 hp) (m1 : EM 400 136 (.ref 0 :: as.map Value.int) hp (some (.int r1)) hp1) (hI1 : ivH IV hp1) (m2 : EM 400 248 (.ref 67 :: as.map Value.int) hp1 (some (.int r2)) hp2) : R1 hp2 := by
  obtain rfl := ln0 hl
  obtain ⟨e1, h1⟩ := u_kc_undo hI m1
  obtain ⟨e2, h2⟩ := u_km_undo hI1 m2
  obtain ⟨p, q, z⟩ := hR
  have w : exA hp1 68 = exA hp 68 := by rw [h1]; rfl
  have w2 : exA hp1 70 = exA hp 70 := by rw [h1]; rfl
  have w3 : exF hp1 67 6 = exF hp 0 11 := by rw [q, h1]; rfl
  rw [w, w2, w3] at h2
  have b := iv_fb (k := 0) (j := 11) (b := (0, 1)) hI rfl
  unfold km_undo at h2
  unfold kc_undo kt_copyFrom_3_12 at h1
  by_cases c : exF hp 0 11 = 0
  · rw [if_pos c] at h1 h2
    subst h2
    subst h1
    exact ⟨p, q, z⟩
  · rw [if_neg c] at h1 h2
    have c1 : exF hp 0 11 = 1 := Int32.toInt_inj.mp (by
      have c' : (exF hp 0 11).toInt ≠ 0 := fun n => c (Int32.toInt_inj.mp n)
      have e1 : (1 : Int32).toInt = 1 := rfl
      have b1 := b.1
      have b2 := b.2
      dsimp only at b1 b2
      omega)
    have p' := z c1
    rw [co_70_68 (iv_len hI rfl (by decide)) (iv_len hI rfl (by decide))] at h2
    rw [cpy12 (iv_len hI rfl (by decide)) (iv_len hI rfl (by decide)), cpy12 (iv_len hI rfl (by decide)) (iv_len hI rfl (by decide)), cpy12 (iv_len hI rfl (by decide)) (iv_len hI rfl (by decide))] at h1
    subst h2
    subst h1
    exact ⟨p', q, fun _ => p'⟩
end R1O
