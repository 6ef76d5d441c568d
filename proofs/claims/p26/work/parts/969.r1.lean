/-! the table on both sides: M, told, seats, biscuits; and what is kept of them -/
noncomputable def SEATS (t : Int32) (ga se : List Int32) : Prop := ∀ s, s < 12 → ∀ g, g < 12 → (ga.getD s 0 = nI g ↔ (b32 t g = true ∧ se.getD g 0 = nI s))
noncomputable def R1v (M t : Int32) (ga se bi : List Int32) (M' : Int32) (now : List Int32) : Prop := M = M' ∧ t = now.getD 144 0 ∧ (∀ g, g < 12 → se.getD g 0 = now.getD g 0) ∧ (∀ g, g < 12 → bi.getD g 0 = now.getD (12 + g) 0) ∧ SEATS t ga se
noncomputable def R1 (hp : sm_H) : Prop := R1v (exF hp 3 0) (exF hp 3 1) (exA hp 4) (exA hp 5) (exA hp 6) (exF hp 67 3) (exA hp 68) ∧ exF hp 0 11 = exF hp 67 6 ∧ (exF hp 0 11 = 1 → R1v (exF hp 12 0) (exF hp 12 1) (exA hp 13) (exA hp 14) (exA hp 15) (exF hp 67 3) (exA hp 70))
theorem R1v_c {M t M' : Int32} {ga se bi now now' : List Int32} (h : R1v M t ga se bi M' now) (h1 : now'.getD 144 0 = now.getD 144 0) (h2 : ∀ g, g < 24 → now'.getD g 0 = now.getD g 0) : R1v M t ga se bi M' now' := by
  obtain ⟨a, b, c, d, e⟩ := h
  exact ⟨a, by rw [h1]; exact b, fun g hg => by rw [h2 g (by omega)]; exact c g hg, fun g hg => by rw [h2 (12 + g) (by omega)]; exact d g hg, e⟩
/-- calls that touch nothing of it -/
noncomputable def R1c (M : List (Nat × Nat)) (W : List Nat) : Bool := [(3, 0), (3, 1), (0, 11), (12, 0), (12, 1), (67, 3), (67, 6)].all (fun q => !M.contains q) && [4, 5, 6, 13, 14, 15, 1000, 1001, 1007, 1040, 1041, 1047].all (fun q => !W.contains q)
theorem gd_eq {l l' : List Int32} {i : Nat} (h : l[i]? = l'[i]?) : l.getD i 0 = l'.getD i 0 := by
  rw [List.getD_eq_getElem?_getD, List.getD_eq_getElem?_getD, h]
theorem R1_fr {M : List (Nat × Nat)} {W : List Nat} {hp hp' : sm_H} (hc : R1c M W = true) (f : fRm M W hp hp') (h : R1 hp) : R1 hp' := by
  unfold R1c at hc
  simp only [List.all_cons, List.all_nil, Bool.and_true, Bool.and_eq_true, Bool.not_eq_true', List.contains_eq_mem, decide_eq_false_iff_not] at hc
  obtain ⟨⟨c1, c2, c3, c4, c5, c6, c7⟩, d1, d2, d3, d4, d5, d6, d7, d8, d9, e1, e2, e3⟩ := hc
  obtain ⟨f1, f2, f3⟩ := f
  have sc : ∀ k i, k = 68 ∨ k = 70 → (i = 144 ∨ i < 24) → an_sc k i ∉ W := by
    intro k i hk hi
    have hp : an_pg i = 0 ∧ i < 12 ∨ an_pg i = 1 ∧ ¬ i < 12 ∨ an_pg i = 7 ∧ i = 144 := by
      unfold an_pg
      rcases hi with rfl | hi
      · exact Or.inr (Or.inr ⟨rfl, rfl⟩)
      · rw [show Nat.blt i 72 = true from Nat.ble_eq.mpr (by omega)]
        by_cases h : i < 12
        · exact Or.inl ⟨by show i / 12 = 0; omega, h⟩
        · exact Or.inr (Or.inl ⟨by show i / 12 = 1; omega, h⟩)
    unfold an_sc
    rcases hk with rfl | rfl <;> rcases hp with ⟨q, -⟩ | ⟨q, -⟩ | ⟨q, -⟩ <;> rw [q] <;> assumption
  have g68 : ∀ i, (i = 144 ∨ i < 24) → (exA hp' 68).getD i 0 = (exA hp 68).getD i 0 := fun i hi => gd_eq (f3 68 i rfl (sc 68 i (Or.inl rfl) hi))
  have g70 : ∀ i, (i = 144 ∨ i < 24) → (exA hp' 70).getD i 0 = (exA hp 70).getD i 0 := fun i hi => gd_eq (f3 70 i rfl (sc 70 i (Or.inr rfl) hi))
  obtain ⟨h1, h2, h3⟩ := h
  unfold R1
  rw [f1 _ _ c1, f1 _ _ c2, f1 _ _ c3, f1 _ _ c4, f1 _ _ c5, f1 _ _ c6, f1 _ _ c7, (f2 _ d1).1, (f2 _ d2).1, (f2 _ d3).1, (f2 _ d4).1, (f2 _ d5).1, (f2 _ d6).1]
  exact ⟨R1v_c h1 (g68 144 (Or.inl rfl)) (fun g hg => g68 g (Or.inr hg)), h2, fun z => R1v_c (h3 z) (g70 144 (Or.inl rfl)) (fun g hg => g70 g (Or.inr hg))⟩
theorem nI_m1 {g : Nat} (h : g < 2147483648) : ¬ nI g = -1 := fun z => by
  have e := nI_toInt (n := g) (by omega)
  rw [z] at e
  have e2 : (-1 : Int32).toInt = -1 := rfl
  omega
section R1P
variable {M t M' : Int32} {ga se bi now : List Int32}
theorem atSeat_eq (hR : R1v M t ga se bi M' now) (hb : ∀ s, s < 12 → -1 ≤ (ga.getD s 0).toInt ∧ (ga.getD s 0).toInt ≤ 11) {x : Int32} (hx : 0 ≤ x.toInt ∧ x.toInt ≤ 11) : km_atSeat now x = ga.getD x.toInt.toNat 0 := by
  obtain ⟨-, r2, r3, -, r5⟩ := hR
  obtain ⟨s, hs, rfl⟩ : ∃ s, s < 12 ∧ x = nI s := ⟨x.toInt.toNat, by omega, nJ_of (by omega)⟩
  rw [nJ_ix (by omega)]
  have key : ∀ g, g < 12 → ((tq (now.getD 144 0) (nI g) ∧ now.getD g 0 = nI s) ↔ ga.getD s 0 = nI g) := fun g hg => by
    rw [← r2, tq_n hg, ← r3 g hg]
    exact (r5 s hs g hg).symm
  have hv := hb s hs
  generalize ga.getD s 0 = v at key hv ⊢
  have loop : ∀ m i, i + m = 12 → (v = -1 ∨ ∃ g, i ≤ g ∧ g < 12 ∧ v = nI g) → km_atSeat_2 now (nI s) m (nI i) = v := by
    intro m
    induction m with
    | zero =>
      intro i hi hc
      rcases hc with rfl | ⟨g, g1, g2, -⟩
      · rfl
      · omega
    | succ m ih =>
      intro i hi hc
      show (if km_isGuest now (nI i) = 0 then km_atSeat_2 now (nI s) m (nI i + 1) else (if now.getD (0 + nI i).toInt.toNat 0 = nI s then nI i else km_atSeat_2 now (nI s) m (nI i + 1))) = v
      rw [nJ_ad (k := 0) rfl (by omega), Nat.zero_add, nJ_1 (by omega)]
      by_cases hk : v = nI i
      · obtain ⟨k1, k2⟩ := (key i (by omega)).mpr hk
        rcases km_told now (nI i) with ⟨a, b⟩ | ⟨a, b⟩
        · exact absurd k1 b
        · rw [a, if_neg (by decide), if_pos k2, hk]
      · have ih' := ih (i + 1) (by omega) (by
          rcases hc with h | ⟨g, g1, g2, g3⟩
          · exact Or.inl h
          · by_cases h : g = i
            · subst h; exact absurd g3 hk
            · exact Or.inr ⟨g, by omega, g2, g3⟩)
        rcases km_told now (nI i) with ⟨a, b⟩ | ⟨a, b⟩
        · rw [a, if_pos rfl, ih']
        · rw [a, if_neg (by decide), if_neg (fun z => hk ((key i (by omega)).mp ⟨b, z⟩)), ih']
  refine loop 12 0 rfl ?_
  by_cases h : v.toInt = -1
  · exact Or.inl (Int32.toInt_inj.mp h)
  · exact Or.inr ⟨v.toInt.toNat, by omega, by omega, nJ_of (by omega)⟩
theorem seats_place {gx sy : Nat} (hx : gx < 12) (hy : sy < 12) (hl : ga.length = 12 ∧ se.length = 12) (hs : ∀ g, g < 12 → 0 ≤ (se.getD g 0).toInt ∧ (se.getD g 0).toInt ≤ 11) (hS : SEATS t ga se) (hc : ga.getD sy 0 = -1 ∨ ga.getD sy 0 = nI gx) {ga' : List Int32} (hg : ga' = (if b32 t gx = true then ga.set (se.getD gx 0).toInt.toNat (-1) else ga).set sy (nI gx)) {t' : Int32} (ht : ∀ g, g < 12 → b32 t' g = (b32 t g || decide (g = gx))) : SEATS t' ga' (se.set gx (nI sy)) := by
  intro s h1 g h2
  have hsx := hs gx hx
  rw [ht g h2, gd_set (by omega)]
  have eg : ga'.getD s 0 = if s = sy then nI gx else (if b32 t gx = true ∧ s = (se.getD gx 0).toInt.toNat then -1 else ga.getD s 0) := by
    rw [hg]
    by_cases hb : b32 t gx = true
    · rw [if_pos hb, gd_set (by rw [List.length_set]; omega), gd_set (by omega)]
      by_cases e : s = sy
      · rw [if_pos e, if_pos e]
      · rw [if_neg e, if_neg e]
        by_cases e2 : s = (se.getD gx 0).toInt.toNat
        · rw [if_pos e2, if_pos ⟨hb, e2⟩]
        · rw [if_neg e2, if_neg (fun z => e2 z.2)]
    · rw [if_neg hb, gd_set (by omega)]
      by_cases e : s = sy
      · rw [if_pos e, if_pos e]
      · rw [if_neg e, if_neg e, if_neg (fun z => hb z.1)]
  rw [eg]
  have hsg := hS s h1 g h2
  have hsy := hS sy hy g h2
  have hsx' := hS s h1 gx hx
  by_cases e : s = sy
  · subst e
    rw [if_pos rfl]
    by_cases e2 : g = gx
    · subst e2
      rw [if_pos rfl, decide_eq_true rfl, Bool.or_true]
      exact ⟨fun _ => ⟨rfl, rfl⟩, fun _ => rfl⟩
    · rw [if_neg e2, decide_eq_false e2, Bool.or_false]
      refine ⟨fun z => absurd (nJ_inj (by omega) (by omega) z).symm e2, fun z => ?_⟩
      have z2 := hsg.mpr z
      rcases hc with q | q
      · rw [q] at z2; exact absurd z2.symm (nI_m1 (by omega))
      · rw [q] at z2; exact z2
  · rw [if_neg e]
    by_cases e2 : g = gx
    · subst e2
      rw [if_pos rfl, decide_eq_true rfl, Bool.or_true]
      refine ⟨fun z => ?_, fun z => absurd (nJ_inj (by omega) (by omega) z.2).symm e⟩
      by_cases h3 : b32 t g = true ∧ s = (se.getD g 0).toInt.toNat
      · rw [if_pos h3] at z
        exact absurd z.symm (nI_m1 (by omega))
      · rw [if_neg h3] at z
        have q := hsg.mp z
        exact absurd ⟨q.1, by rw [q.2, nJ_ix (by omega)]⟩ h3
    · rw [if_neg e2, decide_eq_false e2, Bool.or_false]
      by_cases h3 : b32 t gx = true ∧ s = (se.getD gx 0).toInt.toNat
      · rw [if_pos h3]
        have q := hsx'.mpr ⟨h3.1, nJ_of (by omega)⟩
        refine ⟨fun z => absurd z.symm (nI_m1 (by omega)), fun z => ?_⟩
        have z2 := hsg.mpr z
        rw [q] at z2
        exact absurd (nJ_inj (by omega) (by omega) z2).symm e2
      · rw [if_neg h3]
        exact hsg
theorem ranksNone_gd {l : List Int32} {x : Int32} {g : Nat} (hx : x.toInt = (g : Int)) (hg : g < 12) (hl : l.length = 150) {j : Nat} (hj : ¬ (72 + 6 * g ≤ j ∧ j < 78 + 6 * g)) : (km_ranksNone l x).getD j 0 = l.getD j 0 ∧ (km_ranksNone l x).length = 150 := by
  have loop : ∀ m i (a : List Int32), i + m = 6 → a.length = 150 → (km_ranksNone_2 x m (nI i) a).getD j 0 = a.getD j 0 ∧ (km_ranksNone_2 x m (nI i) a).length = 150 := by
    intro m
    induction m with
    | zero => intro i a hi ha; exact ⟨rfl, ha⟩
    | succ m ih =>
      intro i a hi ha
      show (km_ranksNone_2 x m (nI i + 1) (a.set ((72 + (6 * x)) + nI i).toInt.toNat 0)).getD j 0 = _ ∧ (km_ranksNone_2 x m (nI i + 1) (a.set ((72 + (6 * x)) + nI i).toInt.toNat 0)).length = 150
      have e := nI_toInt (n := i) (by omega)
      have q := pl_idx (x := x) (i := nI i) ⟨by omega, by omega⟩ ⟨by omega, by omega⟩
      rw [nJ_1 (by omega), show ((72 + (6 * x)) + nI i).toInt.toNat = 72 + 6 * g + i by omega]
      have ih' := ih (i + 1) (a.set (72 + 6 * g + i) 0) (by omega) (by rw [List.length_set]; exact ha)
      rw [gd_set (by omega), if_neg (by omega)] at ih'
      exact ih'
  exact loop 6 0 l rfl hl
end R1P
theorem tq_or {t x : Int32} {gx : Nat} (hx : x.toInt = (gx : Int)) (hg : gx < 12) : ∀ g, g < 12 → b32 (t ||| ((1 : Int32) <<< (x &&& 31))) g = (b32 t g || decide (g = gx)) := fun g h => by
  rw [b32_or, b32_shl hx (by omega) (by omega)]
section R1G
variable {M t M' : Int32} {ga se bi a7 a8 a9 a10 now : List Int32} {l11 : List Int64} {x y b u m : Int32}
theorem now7 {gx : Nat} (hx : x.toInt = (gx : Int)) (hg : gx < 12) (hl : now.length = 150) {v : Int32} (j : Nat) : (((((((now.set 144 v).set (0 + x).toInt.toNat y).set (12 + x).toInt.toNat b).set (24 + x).toInt.toNat u).set (36 + x).toInt.toNat m).set (48 + x).toInt.toNat 0).set (60 + x).toInt.toNat 0).getD j 0 = (if j = 60 + gx then 0 else if j = 48 + gx then 0 else if j = 36 + gx then m else if j = 24 + gx then u else if j = 12 + gx then b else if j = 0 + gx then y else if j = 144 then v else now.getD j 0) ∧ (((((((now.set 144 v).set (0 + x).toInt.toNat y).set (12 + x).toInt.toNat b).set (24 + x).toInt.toNat u).set (36 + x).toInt.toNat m).set (48 + x).toInt.toNat 0).set (60 + x).toInt.toNat 0).length = 150 := by
  rw [nJ_of hx, nJ_ad (k := 0) rfl (by omega), nJ_ad (k := 12) rfl (by omega), nJ_ad (k := 24) rfl (by omega), nJ_ad (k := 36) rfl (by omega), nJ_ad (k := 48) rfl (by omega), nJ_ad (k := 60) rfl (by omega)]
  refine ⟨?_, by simp only [List.length_set]; exact hl⟩
  rw [gd_set (by simp only [List.length_set]; omega), gd_set (by simp only [List.length_set]; omega), gd_set (by simp only [List.length_set]; omega), gd_set (by simp only [List.length_set]; omega), gd_set (by simp only [List.length_set]; omega), gd_set (by simp only [List.length_set]; omega), gd_set (by omega)]
theorem place_R (hR : R1v M t ga se bi M' now) (hl : ga.length = 12 ∧ se.length = 12 ∧ bi.length = 12 ∧ now.length = 150) (hs : ∀ g, g < 12 → 0 ≤ (se.getD g 0).toInt ∧ (se.getD g 0).toInt ≤ 11) (hx : 0 ≤ x.toInt ∧ x.toInt ≤ 11) (hy : 0 ≤ y.toInt ∧ y.toInt ≤ 11) (hc : ga.getD y.toInt.toNat 0 = -1 ∨ ga.getD y.toInt.toNat 0 = x) : R1v M (kt_place t ga se a9 a10 l11 x y).1 (kt_place t ga se a9 a10 l11 x y).2.1 (kt_place t ga se a9 a10 l11 x y).2.2.1 (bi.set x.toInt.toNat b) M' (km_ranksNone (((((((now.set 144 ((now.getD 144 0) ||| ((1 : Int32) <<< (x &&& 31)))).set (0 + x).toInt.toNat y).set (12 + x).toInt.toNat b).set (24 + x).toInt.toNat u).set (36 + x).toInt.toNat m).set (48 + x).toInt.toNat 0).set (60 + x).toInt.toNat 0) x) := by
  obtain ⟨r1, r2, r3, r4, r5⟩ := hR
  obtain ⟨l1, l2, l3, l4⟩ := hl
  obtain ⟨gx, hg, hx'⟩ : ∃ gx : Nat, gx < 12 ∧ x.toInt = (gx : Int) := ⟨x.toInt.toNat, by omega, by omega⟩
  obtain ⟨sy, hsy, hy'⟩ : ∃ sy : Nat, sy < 12 ∧ y.toInt = (sy : Int) := ⟨y.toInt.toNat, by omega, by omega⟩
  have n7 : ∀ (v : Int32) (j : Nat), _ := fun v j => now7 (now := now) (y := y) (b := b) (u := u) (m := m) hx' hg l4 (v := v) j
  have rn := fun (v : Int32) (j : Nat) (hj : ¬ (72 + 6 * gx ≤ j ∧ j < 78 + 6 * gx)) => (ranksNone_gd hx' hg (n7 v j).2 hj).1.trans (n7 v j).1
  have p1 : (kt_place t ga se a9 a10 l11 x y).1 = t ||| ((1 : Int32) <<< (x &&& 31)) := by unfold kt_place; split <;> rfl
  have p2 : (kt_place t ga se a9 a10 l11 x y).2.1 = (if b32 t gx = true then ga.set (se.getD gx 0).toInt.toNat (-1) else ga).set sy (nI gx) := by
    unfold kt_place
    have ex : x.toInt.toNat = gx := by omega
    have ey : y.toInt.toNat = sy := by omega
    have e12 : tq t x ↔ b32 t gx = true := by rw [nJ_of hx']; exact tq_n hg
    rw [ex, ey]
    rcases kt_told t x with ⟨c, d⟩ | ⟨c, d⟩
    · rw [c, if_pos rfl, if_neg (fun z => d (e12.mpr z))]
      show ga.set sy x = _
      rw [nJ_of hx']
    · rw [c, if_neg (by decide), if_pos (e12.mp d)]
      show (ga.set (se.getD gx 0).toInt.toNat (-1)).set sy x = _
      rw [nJ_of hx']
  have p3 : (kt_place t ga se a9 a10 l11 x y).2.2.1 = se.set gx (nI sy) := by
    have ex : x.toInt.toNat = gx := by omega
    unfold kt_place
    rw [ex, ← nJ_of hy']
    split <;> rfl
  rw [p1, p2, p3]
  refine ⟨r1, ?_, fun g h => ?_, fun g h => ?_, ?_⟩
  · rw [rn _ 144 (by omega), if_neg (by omega), if_neg (by omega), if_neg (by omega), if_neg (by omega), if_neg (by omega), if_neg (by omega), if_pos rfl, r2]
  · rw [rn _ g (by omega), if_neg (by omega), if_neg (by omega), if_neg (by omega), if_neg (by omega), if_neg (by omega), gd_set (by omega), ← nJ_of hy']
    by_cases e : g = gx
    · rw [if_pos e, if_pos (by omega)]
    · rw [if_neg e, if_neg (by omega), if_neg (by omega)]
      exact r3 g h
  · rw [rn _ (12 + g) (by omega), if_neg (by omega), if_neg (by omega), if_neg (by omega), if_neg (by omega), gd_set (by omega)]
    by_cases e : g = gx
    · rw [if_pos (by omega), if_pos (by omega)]
    · rw [if_neg (by omega), if_neg (by omega), if_neg (by omega), if_neg (by omega)]
      exact r4 g h
  · refine seats_place hg hsy ⟨l1, l2⟩ hs r5 ?_ rfl (tq_or hx' hg)
    rw [show y.toInt.toNat = sy by omega] at hc
    rcases hc with h | h
    · exact Or.inl h
    · exact Or.inr (by rw [h, ← nJ_of hx'])
theorem guest_pure (hR : R1v M t ga se bi M' now) (hl : ga.length = 12 ∧ se.length = 12 ∧ bi.length = 12 ∧ now.length = 150) (hb : ∀ s, s < 12 → -1 ≤ (ga.getD s 0).toInt ∧ (ga.getD s 0).toInt ≤ 11) (hs : ∀ g, g < 12 → 0 ≤ (se.getD g 0).toInt ∧ (se.getD g 0).toInt ≤ 11) : (kc_guest t ga se bi a7 a8 a9 a10 l11 x y b u m).1 = (km_guest now x y b u m).1 ∧ R1v M (kc_guest t ga se bi a7 a8 a9 a10 l11 x y b u m).2.1 (kc_guest t ga se bi a7 a8 a9 a10 l11 x y b u m).2.2.1 (kc_guest t ga se bi a7 a8 a9 a10 l11 x y b u m).2.2.2.1 (kc_guest t ga se bi a7 a8 a9 a10 l11 x y b u m).2.2.2.2.1 M' (km_guest now x y b u m).2 := by
  have e0 : (0 : Int32).toInt = 0 := rfl
  have e11 : (11 : Int32).toInt = 11 := rfl
  unfold kc_guest km_guest
  rw [within_in]
  by_cases c1 : km_in x 0 11 = 0
  · rw [if_pos c1, if_pos c1]
    exact ⟨rfl, hR⟩
  by_cases c2 : km_in y 0 11 = 0
  · rw [if_neg c1, if_neg c1, if_pos c2, if_pos c2]
    exact ⟨rfl, hR⟩
  by_cases c3 : km_in b 0 20 = 0
  · rw [if_neg c1, if_neg c1, if_neg c2, if_neg c2, if_pos c3, if_pos c3]
    exact ⟨rfl, hR⟩
  by_cases c4 : km_in u 0 99 = 0
  · rw [if_neg c1, if_neg c1, if_neg c2, if_neg c2, if_neg c3, if_neg c3, if_pos c4, if_pos c4]
    exact ⟨rfl, hR⟩
  by_cases c5 : km_in m 0 9 = 0
  · rw [if_neg c1, if_neg c1, if_neg c2, if_neg c2, if_neg c3, if_neg c3, if_neg c4, if_neg c4, if_pos c5, if_pos c5]
    exact ⟨rfl, hR⟩
  rw [if_neg c1, if_neg c1, if_neg c2, if_neg c2, if_neg c3, if_neg c3, if_neg c4, if_neg c4, if_neg c5, if_neg c5]
  rw [in_0, e0, e11, Decidable.not_not] at c1 c2
  rw [atSeat_eq hR hb c2]
  by_cases c6 : ga.getD y.toInt.toNat 0 = -1
  · rw [if_pos c6, if_pos c6]
    exact ⟨rfl, place_R hR hl hs c1 c2 (Or.inl c6)⟩
  · rw [if_neg c6, if_neg c6]
    by_cases c7 : ga.getD y.toInt.toNat 0 = x
    · rw [if_pos c7, if_pos c7]
      exact ⟨rfl, place_R hR hl hs c1 c2 (Or.inr c7)⟩
    · rw [if_neg c7, if_neg c7]
      exact ⟨rfl, hR⟩
end R1G
/-! copies -/
theorem cpy12 {α : Type} {f g : List α} (hf : f.length = 12) (hg : g.length = 12) : sm_cpy f g 0 0 12 = f := by
  unfold sm_cpy
  rw [List.take_zero, List.drop_zero, List.nil_append, List.take_of_length_le (by omega), List.drop_of_length_le (by omega), List.append_nil]
theorem cop_loop {lp : Nat → Int32 → List Int32 → List Int32} {b : List Int32} (h0 : ∀ i a, lp 0 i a = a) (hs : ∀ m i a, lp (m + 1) i a = lp m (i + 1) (a.set i.toInt.toNat (b.getD i.toInt.toNat 0))) : ∀ (m i : Nat) (a : List Int32), i + m = 150 → (lp m (nI i) a).length = a.length ∧ (a.length = 150 → ∀ j, j < 150 → (i ≤ j → (lp m (nI i) a).getD j 0 = b.getD j 0) ∧ (j < i → (lp m (nI i) a).getD j 0 = a.getD j 0))
  | 0, i, a, h => by
    rw [h0]
    exact ⟨rfl, fun _ j hj => ⟨fun z => by omega, fun _ => rfl⟩⟩
  | m + 1, i, a, h => by
    rw [hs, nJ_ix (by omega), nJ_1 (by omega)]
    obtain ⟨q1, q2⟩ := cop_loop h0 hs m (i + 1) (a.set i (b.getD i 0)) (by omega)
    rw [List.length_set] at q1 q2
    refine ⟨q1, fun hl j hj => ?_⟩
    obtain ⟨p1, p2⟩ := q2 hl j hj
    refine ⟨fun z => ?_, fun z => ?_⟩
    · by_cases e : j = i
      · rw [p2 (by omega), gd_set (by omega), if_pos e, e]
      · exact p1 (by omega)
    · rw [p2 (by omega), gd_set (by omega), if_neg (by omega)]
theorem cop_eq {a b : List Int32} (ha : a.length = 150) (hb : b.length = 150) (h : ∀ j, j < 150 → a.getD j 0 = b.getD j 0) : a = b := by
  apply List.ext_getElem?
  intro q
  by_cases hq : q < 150
  · have e := h q hq
    rw [List.getD_eq_getElem?_getD, List.getD_eq_getElem?_getD, List.getElem?_eq_getElem (by omega), List.getElem?_eq_getElem (by omega)] at e
    rw [List.getElem?_eq_getElem (by omega), List.getElem?_eq_getElem (by omega)]
    exact congrArg some e
  · rw [List.getElem?_eq_none (by omega), List.getElem?_eq_none (by omega)]
theorem co_68_70 {a b : List Int32} (ha : a.length = 150) (hb : b.length = 150) : km_copies_68_70 a b = a := by
  obtain ⟨q1, q2⟩ := cop_loop (lp := km_copies_68_70_2 a) (b := a) (fun _ _ => rfl) (fun _ _ _ => rfl) 150 0 b rfl
  exact cop_eq (by show (km_copies_68_70_2 a 150 (nI 0) b).length = 150; omega) ha (fun j hj => (q2 hb j hj).1 (by omega))
theorem co_70_68 {a b : List Int32} (ha : a.length = 150) (hb : b.length = 150) : km_copies_70_68 a b = b := by
  obtain ⟨q1, q2⟩ := cop_loop (lp := km_copies_70_68_2 b) (b := b) (fun _ _ => rfl) (fun _ _ _ => rfl) 150 0 a rfl
  exact cop_eq (by show (km_copies_70_68_2 b 150 (nI 0) a).length = 150; omega) hb (fun j hj => (q2 ha j hj).1 (by omega))
theorem co_68_69 {a b : List Int32} (ha : a.length = 150) (hb : b.length = 150) : km_copies_68_69 a b = a := by
  obtain ⟨q1, q2⟩ := cop_loop (lp := km_copies_68_69_2 a) (b := a) (fun _ _ => rfl) (fun _ _ _ => rfl) 150 0 b rfl
  exact cop_eq (by show (km_copies_68_69_2 a 150 (nI 0) b).length = 150; omega) ha (fun j hj => (q2 hb j hj).1 (by omega))
theorem co_69_68 {a b : List Int32} (hb : b.length = 150) (hr : (km_copies_69_68 a b).length = 150) : km_copies_69_68 a b = b := by
  obtain ⟨q1, q2⟩ := cop_loop (lp := km_copies_69_68_2 b) (b := b) (fun _ _ => rfl) (fun _ _ _ => rfl) 150 0 a rfl
  have ha : a.length = 150 := q1.symm.trans hr
  exact cop_eq hr hb (fun j hj => (q2 ha j hj).1 (by omega))
/-! where: the seat is put back -/
theorem wh_loop {f : Nat} {p q r : Int32} {l1 l2 l3 l4 l5 : List Int32} {x w : Int32} {a0 : List Int32} : ∀ (m : Nat) (y3 y4 y5 : Int32) (a b c : List Int32), (∀ v, a.set (0 + x).toInt.toNat v = a0.set (0 + x).toInt.toNat v) → ∀ v, (km_where_57 f p q r l1 l2 l3 l4 l5 x w m y3 y4 y5 a b c).2.1.set (0 + x).toInt.toNat v = a0.set (0 + x).toInt.toNat v
  | 0, _, _, _, a, _, _, h => h
  | m + 1, y3, y4, y5, a, b, c, h => fun v => by
    have h2 : ∀ w v, (a.set (0 + x).toInt.toNat w).set (0 + x).toInt.toNat v = a0.set (0 + x).toInt.toNat v := fun w v => by rw [List.set_set]; exact h v
    have h3 : ∀ w z v, ((a.set (0 + x).toInt.toNat w).set (0 + x).toInt.toNat z).set (0 + x).toInt.toNat v = a0.set (0 + x).toInt.toNat v := fun w z v => by rw [List.set_set]; exact h2 w v
    unfold km_where_57
    repeat' split
    all_goals first | exact wh_loop m _ _ _ _ _ _ (h3 _ _) v | exact wh_loop m _ _ _ _ _ _ (h2 _) v
