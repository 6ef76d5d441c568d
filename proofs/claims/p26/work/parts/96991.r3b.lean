/-! rankings: measures, guest, keep, undo -/
section R3G
variable {M t M' : Int32} {ga se bi a7 a8 a9 a10 now : List Int32} {l11 : List Int64} {x y b u m : Int32}
theorem place_3 {n : Nat} (hn : n ≤ 6) (hR : R3v n l11 now) (hl : now.length = 150 ∧ l11.length = 12) (hx : 0 ≤ x.toInt ∧ x.toInt ≤ 11) : R3v n (kt_place t ga se a9 a10 l11 x y).2.2.2.2.2 (km_ranksNone (((((((now.set 144 ((now.getD 144 0) ||| ((1 : Int32) <<< (x &&& 31)))).set (0 + x).toInt.toNat y).set (12 + x).toInt.toNat b).set (24 + x).toInt.toNat u).set (36 + x).toInt.toNat m).set (48 + x).toInt.toNat 0).set (60 + x).toInt.toNat 0) x) := by
  obtain ⟨l1, l2⟩ := hl
  obtain ⟨gx, hg, hx'⟩ : ∃ gx : Nat, gx < 12 ∧ x.toInt = (gx : Int) := ⟨x.toInt.toNat, by omega, by omega⟩
  have n7 : ∀ (v : Int32) (j : Nat), _ := fun v j => now7 (now := now) (y := y) (b := b) (u := u) (m := m) hx' hg l1 (v := v) j
  have p1 : (kt_place t ga se a9 a10 l11 x y).2.2.2.2.2 = l11.set gx 0 := by
    have ex : x.toInt.toNat = gx := by omega
    unfold kt_place
    rw [ex]
    split <;> rfl
  rw [p1]
  intro g h
  by_cases e : g = gx
  · subst e
    rw [gd_set (by omega), if_pos rfl]
    exact R3g_0 hn (fun i hi => none_0 hx' hg (n7 _ 0).2 hi)
  · rw [gd_set (by omega), if_neg e]
    refine R3g_c hn (fun i hi => ?_) (hR g h)
    unfold pl
    rw [(ranksNone_gd hx' hg (n7 _ 0).2 (by omega)).1, (n7 _ _).1, if_neg (by omega), if_neg (by omega), if_neg (by omega), if_neg (by omega), if_neg (by omega), if_neg (by omega), if_neg (by omega)]
theorem guest_3 {n : Nat} (hn : n ≤ 6) (hR1 : R1v M t ga se bi M' now) (hR : R3v n l11 now) (hl : now.length = 150 ∧ l11.length = 12) (hb : ∀ s, s < 12 → -1 ≤ (ga.getD s 0).toInt ∧ (ga.getD s 0).toInt ≤ 11) : R3v n (kc_guest t ga se bi a7 a8 a9 a10 l11 x y b u m).2.2.2.2.2.2.2.2.2 (km_guest now x y b u m).2 := by
  have e0 : (0 : Int32).toInt = 0 := rfl
  have e11 : (11 : Int32).toInt = 11 := rfl
  unfold kc_guest km_guest
  rw [within_in]
  by_cases c1 : km_in x 0 11 = 0
  · rw [if_pos c1, if_pos c1]
    exact hR
  by_cases c2 : km_in y 0 11 = 0
  · rw [if_neg c1, if_neg c1, if_pos c2, if_pos c2]
    exact hR
  by_cases c3 : km_in b 0 20 = 0
  · rw [if_neg c1, if_neg c1, if_neg c2, if_neg c2, if_pos c3, if_pos c3]
    exact hR
  by_cases c4 : km_in u 0 99 = 0
  · rw [if_neg c1, if_neg c1, if_neg c2, if_neg c2, if_neg c3, if_neg c3, if_pos c4, if_pos c4]
    exact hR
  by_cases c5 : km_in m 0 9 = 0
  · rw [if_neg c1, if_neg c1, if_neg c2, if_neg c2, if_neg c3, if_neg c3, if_neg c4, if_neg c4, if_pos c5, if_pos c5]
    exact hR
  rw [if_neg c1, if_neg c1, if_neg c2, if_neg c2, if_neg c3, if_neg c3, if_neg c4, if_neg c4, if_neg c5, if_neg c5]
  rw [in_0, e0, e11, Decidable.not_not] at c1 c2
  rw [atSeat_eq hR1 hb c2]
  by_cases c6 : ga.getD y.toInt.toNat 0 = -1
  · rw [if_pos c6, if_pos c6]
    exact place_3 hn hR hl c1
  · rw [if_neg c6, if_neg c6]
    by_cases c7 : ga.getD y.toInt.toNat 0 = x
    · rw [if_pos c7, if_pos c7]
      exact place_3 hn hR hl c1
    · rw [if_neg c7, if_neg c7]
      exact hR
end R3G
section R3O
variable {as : List Int32} {hp hp1 hp2 : sm_H} {r1 r2 : Int32}
theorem R3_guest (hl : as.length = 5) (hI : ivH IV hp) (hR1 : R1 hp) (hR : R3 hp) (m1 : EM 400 12 (.ref 0 :: as.map Value.int) hp (some (.int r1)) hp1) (hI1 : ivH IV hp1) (m2 : EM 400 143 (.ref 67 :: as.map Value.int) hp1 (some (.int r2)) hp2) : R3 hp2 := by
  obtain ⟨x, y, b, u, m, rfl⟩ := ln5 hl
  obtain ⟨-, h1⟩ := u_kc_guest hI m1
  obtain ⟨-, h2⟩ := u_km_guest hI1 m2
  have w : exA hp1 68 = exA hp 68 := by rw [h1]; rfl
  rw [w] at h2
  have g := guest_3 (a7 := exA hp 7) (a8 := exA hp 8) (a9 := exA hp 9) (a10 := exA hp 10) (x := x) (y := y) (b := b) (u := u) (m := m) (mN_b hI).2 hR1.1 hR.1 ⟨iv_len hI rfl (by decide), iv_lenL hI rfl⟩ (fun s hs => bd_at (lo := 0) (hi := 0) hI rfl hs)
  generalize kc_guest (exF hp 3 1) (exA hp 4) (exA hp 5) (exA hp 6) (exA hp 7) (exA hp 8) (exA hp 9) (exA hp 10) (exL hp 11) x y b u m = T at g h1
  generalize km_guest (exA hp 68) x y b u m = T' at g h2
  subst h2
  subst h1
  exact ⟨g, hR.2⟩
theorem R3_measures (hl : as.length = 1) (hI : ivH IV hp) (hR : R3 hp) (m1 : EM 400 9 (.ref 0 :: as.map Value.int) hp (some (.int r1)) hp1) (hI1 : ivH IV hp1) (m2 : EM 400 140 (.ref 67 :: as.map Value.int) hp1 (some (.int r2)) hp2) (hI2 : ivH IV hp2) : R3 hp2 := by
  obtain ⟨x, rfl⟩ := ln1 hl
  obtain ⟨-, h1⟩ := u_kc_measures hI m1
  obtain ⟨-, h2⟩ := u_km_measures hI1 m2
  have w : exA hp1 68 = exA hp 68 := by rw [h1]; rfl
  have w3 : exF hp1 67 3 = exF hp 67 3 := by rw [h1]; rfl
  have w6 : exF hp1 67 6 = exF hp 67 6 := by rw [h1]; rfl
  rw [w, w3, w6] at h2
  have l68 : (exA hp 68).length = 150 := iv_len hI rfl (by decide)
  unfold kc_measures at h1
  unfold km_measures at h2
  rw [within_in] at h1
  by_cases c : km_in x 2 6 = 0
  · rw [if_pos c] at h1 h2
    subst h2
    subst h1
    exact hR
  · rw [if_neg c] at h1 h2
    have hx : 2 ≤ x.toInt ∧ x.toInt ≤ 6 := by
      have e2 : (2 : Int32).toInt = 2 := rfl
      have e6 : (6 : Int32).toInt = 6 := rfl
      rw [in_0, Decidable.not_not, e2, e6] at c
      exact c
    have loop : ∀ (k i : Nat) (a : List Int32), i + k = 12 → a.length = 150 → (km_measures_19 k (nI i) a).length = 150 ∧ ∀ g j, g < 12 → j < 6 → (i ≤ g → (km_measures_19 k (nI i) a).getD (72 + 6 * g + j) 0 = 0) ∧ (g < i → (km_measures_19 k (nI i) a).getD (72 + 6 * g + j) 0 = a.getD (72 + 6 * g + j) 0) := by
      intro k
      induction k with
      | zero => intro i a hi ha; exact ⟨ha, fun g j hg hj => ⟨fun z => by omega, fun _ => rfl⟩⟩
      | succ k ih =>
        intro i a hi ha
        have e := nI_toInt (n := i) (by omega)
        show (km_measures_19 k (nI i + 1) (km_ranksNone a (nI i))).length = 150 ∧ ∀ g j, g < 12 → j < 6 → (i ≤ g → (km_measures_19 k (nI i + 1) (km_ranksNone a (nI i))).getD (72 + 6 * g + j) 0 = 0) ∧ (g < i → (km_measures_19 k (nI i + 1) (km_ranksNone a (nI i))).getD (72 + 6 * g + j) 0 = a.getD (72 + 6 * g + j) 0)
        rw [nJ_1 (by omega)]
        obtain ⟨q1, q2⟩ := ih (i + 1) (km_ranksNone a (nI i)) (by omega) (ranksNone_gd (j := 0) e (by omega) ha (by omega)).2
        refine ⟨q1, fun g j hg hj => ⟨fun z => ?_, fun z => ?_⟩⟩
        · by_cases e2 : g = i
          · rw [(q2 g j hg hj).2 (by omega), e2]
            exact none_0 e (by omega) ha hj
          · exact (q2 g j hg hj).1 (by omega)
        · rw [(q2 g j hg hj).2 (by omega)]
          exact (ranksNone_gd e (by omega) ha (by omega)).1
    obtain ⟨q1, q2⟩ := loop 12 0 (exA hp 68) rfl l68
    have q1 : (km_measures_19 12 0 (exA hp 68)).length = 150 := q1
    have q3 : ∀ g j, g < 12 → j < 6 → pl ((km_measures_19 12 0 (exA hp 68)).set 146 0) g j = 0 := fun g j hg hj => by
      unfold pl
      rw [gd_set (by omega), if_neg (by omega)]
      exact (q2 g j hg hj).1 (by omega)
    have f0 : ∀ g, g < 12 → (kja_fill_11 (exL hp 11) 0).getD g 0 = 0 := fun g hg => fill_0 (iv_lenL hI rfl) hg
    generalize (km_measures_19 12 0 (exA hp 68)).set 146 0 = nw at q3 h2
    generalize kja_fill_11 (exL hp 11) 0 = nl at f0 h1
    subst h2
    subst h1
    refine ⟨fun g hg => ?_, fun n => absurd n (by decide : ¬ (0 : Int32) = 1)⟩
    show R3g x.toInt.toNat (nl.getD g 0) (pl nw g)
    rw [f0 g hg]
    exact R3g_0 (by omega) (fun i hi => q3 g i hg hi)
theorem R3_keep (hl : as.length = 0) (hI : ivH IV hp) (hR : R3 hp) (m1 : EM 400 135 (.ref 0 :: as.map Value.int) hp (some (.int r1)) hp1) (hI1 : ivH IV hp1) (m2 : EM 400 247 (.ref 67 :: as.map Value.int) hp1 (some (.int r2)) hp2) : R3 hp2 := by
  obtain rfl := ln0 hl
  obtain ⟨-, h1⟩ := u_kc_keep hI m1
  obtain ⟨-, h2⟩ := u_km_keep hI1 m2
  have w : exA hp1 68 = exA hp 68 := by rw [h1]; rfl
  have w2 : exA hp1 70 = exA hp 70 := by rw [h1]; rfl
  rw [w, w2] at h2
  unfold km_keep at h2
  unfold kc_keep kt_copyFrom_12_3 at h1
  rw [co_68_70 (iv_len hI rfl (by decide)) (iv_len hI rfl (by decide))] at h2
  have e := cpy12 (f := exL hp 11) (g := exL hp 20) (iv_lenL hI rfl) (iv_lenL hI rfl)
  rw [e] at h1
  subst h2
  subst h1
  exact ⟨hR.1, fun _ => hR.1⟩
theorem R3_undo (hl : as.length = 0) (hI : ivH IV hp) (hR1 : R1 hp) (hR : R3 hp) (m1 : EM 400 136 (.ref 0 :: as.map Value.int) hp (some (.int r1)) hp1) (hI1 : ivH IV hp1) (m2 : EM 400 248 (.ref 67 :: as.map Value.int) hp1 (some (.int r2)) hp2) : R3 hp2 := by
  obtain rfl := ln0 hl
  obtain ⟨-, h1⟩ := u_kc_undo hI m1
  obtain ⟨-, h2⟩ := u_km_undo hI1 m2
  have w : exA hp1 68 = exA hp 68 := by rw [h1]; rfl
  have w2 : exA hp1 70 = exA hp 70 := by rw [h1]; rfl
  have w3 : exF hp1 67 6 = exF hp 0 11 := by rw [hR1.2.1, h1]; rfl
  rw [w, w2, w3] at h2
  have b := iv_fb (k := 0) (j := 11) (b := (0, 1)) hI rfl
  unfold km_undo at h2
  unfold kc_undo kt_copyFrom_3_12 at h1
  by_cases c : exF hp 0 11 = 0
  · rw [if_pos c] at h1 h2
    subst h2
    subst h1
    exact hR
  · rw [if_neg c] at h1 h2
    have c1 : exF hp 0 11 = 1 := Int32.toInt_inj.mp (by
      have c' : (exF hp 0 11).toInt ≠ 0 := fun n => c (Int32.toInt_inj.mp n)
      have e1 : (1 : Int32).toInt = 1 := rfl
      have b1 := b.1
      have b2 := b.2
      dsimp only at b1 b2
      omega)
    have p' := hR.2 c1
    rw [co_70_68 (iv_len hI rfl (by decide)) (iv_len hI rfl (by decide))] at h2
    have e := cpy12 (f := exL hp 20) (g := exL hp 11) (iv_lenL hI rfl) (iv_lenL hI rfl)
    rw [e] at h1
    subst h2
    subst h1
    exact ⟨p', fun _ => p'⟩
end R3O
