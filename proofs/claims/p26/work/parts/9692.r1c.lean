/-! where, tried, end put the table back; all calls keep the relation -/
theorem set_own {l : List Int32} {i : Nat} : l.set i (l.getD i 0) = l := by
  apply List.ext_getElem?
  intro q
  rw [List.getElem?_set]
  by_cases e : i = q
  · subst e
    rw [if_pos rfl]
    by_cases h : i < l.length
    · rw [if_pos h, List.getD_eq_getElem?_getD, List.getElem?_eq_getElem h]
      rfl
    · rw [if_neg h, List.getElem?_eq_none (by omega)]
  · rw [if_neg e]
section R1T
variable {as : List Int32} {hp hp1 hp2 : sm_H} {r1 r2 : Int32}
theorem where_68 {f : Nat} {p q r : Int32} {now l1 l2 l3 l4 l5 a83 a84 : List Int32} {x : Int32} : (km_where f p q r now l1 l2 l3 l4 l5 a83 a84 x).2.1 = now := by
  unfold km_where
  by_cases c1 : km_isGuest now x = 0
  · rw [if_pos c1]
  · rw [if_neg c1]
    by_cases c2 : (now.getD 145 0).toInt < 0
    · rw [if_pos c2]
    · rw [if_neg c2]
      by_cases c3 : now.getD 145 0 = x
      · rw [if_pos c3]
      · rw [if_neg c3]
        exact (wh_loop 12 _ _ _ now _ _ (fun _ => rfl) _).trans set_own
theorem m_where (hl : as.length = 1) (hI : ivH IV hp) (m : EM 400 237 (.ref 67 :: as.map Value.int) hp (some (.int r1)) hp2) : ∃ a b, hp2 = hz (exF hp) (uA (uA (uA (exA hp) 68 (exA hp 68)) 83 a) 84 b) (exL hp) := by
  obtain ⟨x, rfl⟩ := ln1 hl
  obtain ⟨N, h⟩ := u_km_where hI m
  obtain ⟨-, h⟩ := h N (Nat.le_refl _)
  rw [where_68] at h
  exact ⟨_, _, h⟩
theorem tried_68 {f : Nat} {p1 p2 p3 p4 p5 p6 : Int32} {now as78 l1 l2 l3 l4 l5 a83 a84 a86 : List Int32} {x y : Int32} : (km_tried f p1 p2 p3 p4 p5 p6 now as78 l1 l2 l3 l4 l5 a83 a84 a86 x y).2.2.2.1 = now ∨ ∃ X, (km_tried f p1 p2 p3 p4 p5 p6 now as78 l1 l2 l3 l4 l5 a83 a84 a86 x y).2.2.2.1 = km_copies_69_68 X (km_copies_68_69 now as78) := by
  generalize hT : km_tried f p1 p2 p3 p4 p5 p6 now as78 l1 l2 l3 l4 l5 a83 a84 a86 x y = T
  unfold km_tried at hT
  generalize hC : km_copies_68_69 now as78 = C at hT ⊢
  generalize hD : km_copies_69_68 = D at hT ⊢
  generalize hS : km_teasGo f p1 p2 p3 p4 now l1 l2 l3 l4 l5 a83 a84 a86 x = S at hT
  by_cases c1 : km_in x 1 60 = 0
  · rw [if_pos c1] at hT
    subst hT
    exact Or.inl rfl
  rw [if_neg c1] at hT
  by_cases c2 : km_in y 0 3 = 0
  · rw [if_pos c2] at hT
    repeat' (split at hT)
    all_goals (subst hT; first | exact Or.inl rfl | exact Or.inr ⟨_, rfl⟩)
  · rw [if_neg c2] at hT
    repeat' (split at hT)
    all_goals (subst hT; first | exact Or.inl rfl | exact Or.inr ⟨_, rfl⟩)
theorem end_68 {f : Nat} {p1 p2 p3 p4 p5 p6 : Int32} {now as78 l1 l2 l3 l4 l5 a83 a84 a86 a97 a98 : List Int32} {x y : Int32} : (km_end f p1 p2 p3 p4 p5 p6 now as78 l1 l2 l3 l4 l5 a83 a84 a86 a97 a98 x y).2.2.2.1 = now ∨ ∃ X, (km_end f p1 p2 p3 p4 p5 p6 now as78 l1 l2 l3 l4 l5 a83 a84 a86 a97 a98 x y).2.2.2.1 = km_copies_69_68 X (km_copies_68_69 now as78) := by
  unfold km_end
  generalize hC : km_copies_68_69 now as78 = C
  generalize hD : km_copies_69_68 = D
  generalize hE : km_end_48 12 0 a97 a98 = E
  generalize hS : km_end_76 f p1 p2 p3 p4 l1 l2 l3 l4 l5 x.toInt.toNat 0 p5 p6 now a83 a84 a86 E.1 E.2 = S
  repeat' split
  all_goals first | exact Or.inl rfl | exact Or.inr ⟨_, rfl⟩
theorem m_tried (hl : as.length = 2) (hI : ivH IV hp) (m : EM 400 198 (.ref 67 :: as.map Value.int) hp (some (.int r1)) hp2) (hI2 : ivH IV hp2) : exA hp2 68 = exA hp 68 := by
  obtain ⟨x, y, rfl⟩ := ln2 hl
  obtain ⟨N, h⟩ := u_km_tried hI m
  obtain ⟨-, h⟩ := h N (Nat.le_refl _)
  have l : (exA hp2 68).length = 150 := iv_len hI2 rfl (by decide)
  have t := tried_68 (f := N) (p1 := exF hp 67 3) (p2 := exF hp 67 4) (p3 := exF hp 67 5) (p4 := exF hp 67 17) (p5 := exF hp 67 32) (p6 := exF hp 67 33) (now := exA hp 68) (as78 := exA hp 69) (l1 := exA hp 78) (l2 := exA hp 79) (l3 := exA hp 80) (l4 := exA hp 81) (l5 := exA hp 82) (a83 := exA hp 83) (a84 := exA hp 84) (a86 := exA hp 86) (x := x) (y := y)
  generalize km_tried N (exF hp 67 3) (exF hp 67 4) (exF hp 67 5) (exF hp 67 17) (exF hp 67 32) (exF hp 67 33) (exA hp 68) (exA hp 69) (exA hp 78) (exA hp 79) (exA hp 80) (exA hp 81) (exA hp 82) (exA hp 83) (exA hp 84) (exA hp 86) x y = T at h t
  have e : exA hp2 68 = T.2.2.2.1 := by rw [h]; rfl
  rcases t with t | ⟨X, t⟩
  · rw [e, t]
  · rw [co_68_69 (iv_len hI rfl (by decide)) (iv_len hI rfl (by decide))] at t
    rw [e, t]
    exact co_69_68 (iv_len hI rfl (by decide)) (by rw [← t, ← e]; exact l)
theorem m_end (hl : as.length = 2) (hI : ivH IV hp) (m : EM 400 238 (.ref 67 :: as.map Value.int) hp (some (.int r1)) hp2) (hI2 : ivH IV hp2) : exA hp2 68 = exA hp 68 := by
  obtain ⟨x, y, rfl⟩ := ln2 hl
  obtain ⟨N, h⟩ := u_km_end hI m
  obtain ⟨-, h⟩ := h N (Nat.le_refl _)
  have l : (exA hp2 68).length = 150 := iv_len hI2 rfl (by decide)
  have t := end_68 (f := N) (p1 := exF hp 67 3) (p2 := exF hp 67 4) (p3 := exF hp 67 5) (p4 := exF hp 67 17) (p5 := exF hp 67 32) (p6 := exF hp 67 33) (now := exA hp 68) (as78 := exA hp 69) (l1 := exA hp 78) (l2 := exA hp 79) (l3 := exA hp 80) (l4 := exA hp 81) (l5 := exA hp 82) (a83 := exA hp 83) (a84 := exA hp 84) (a86 := exA hp 86) (a97 := exA hp 97) (a98 := exA hp 98) (x := x) (y := y)
  generalize km_end N (exF hp 67 3) (exF hp 67 4) (exF hp 67 5) (exF hp 67 17) (exF hp 67 32) (exF hp 67 33) (exA hp 68) (exA hp 69) (exA hp 78) (exA hp 79) (exA hp 80) (exA hp 81) (exA hp 82) (exA hp 83) (exA hp 84) (exA hp 86) (exA hp 97) (exA hp 98) x y = T at h t
  have e : exA hp2 68 = T.2.2.2.1 := by rw [h]; rfl
  rcases t with t | ⟨X, t⟩
  · rw [e, t]
  · rw [co_68_69 (iv_len hI rfl (by decide)) (iv_len hI rfl (by decide))] at t
    rw [e, t]
    exact co_69_68 (iv_len hI rfl (by decide)) (by rw [← t, ← e]; exact l)
theorem m_where68 (hl : as.length = 1) (hI : ivH IV hp) (m : EM 400 237 (.ref 67 :: as.map Value.int) hp (some (.int r1)) hp2) : exA hp2 68 = exA hp 68 := by
  obtain ⟨a, b, h⟩ := m_where hl hI m
  rw [h]
  rfl
end R1T
/-- frames where the table is known to be as before -/
noncomputable def R1d (M : List (Nat × Nat)) (W : List Nat) : Bool := [(3, 0), (3, 1), (0, 11), (12, 0), (12, 1), (67, 3), (67, 6)].all (fun q => !M.contains q) && [4, 5, 6, 13, 14, 15, 1040, 1041, 1047].all (fun q => !W.contains q)
theorem R1_fr68 {M : List (Nat × Nat)} {W : List Nat} {hp hp' : sm_H} (hc : R1d M W = true) (f : fRm M W hp hp') (e : exA hp' 68 = exA hp 68) (h : R1 hp) : R1 hp' := by
  unfold R1d at hc
  simp only [List.all_cons, List.all_nil, Bool.and_true, Bool.and_eq_true, Bool.not_eq_true', List.contains_eq_mem, decide_eq_false_iff_not] at hc
  obtain ⟨⟨c1, c2, c3, c4, c5, c6, c7⟩, d1, d2, d3, d4, d5, d6, e1, e2, e3⟩ := hc
  obtain ⟨f1, f2, f3⟩ := f
  have sc : ∀ i, (i = 144 ∨ i < 24) → an_sc 70 i ∉ W := by
    intro i hi
    have hp : an_pg i = 0 ∨ an_pg i = 1 ∨ an_pg i = 7 := by
      unfold an_pg
      rcases hi with rfl | hi
      · exact Or.inr (Or.inr rfl)
      · rw [show Nat.blt i 72 = true from Nat.ble_eq.mpr (by omega)]
        by_cases h : i < 12
        · exact Or.inl (by show i / 12 = 0; omega)
        · exact Or.inr (Or.inl (by show i / 12 = 1; omega))
    unfold an_sc
    rcases hp with q | q | q <;> rw [q] <;> assumption
  have g70 : ∀ i, (i = 144 ∨ i < 24) → (exA hp' 70).getD i 0 = (exA hp 70).getD i 0 := fun i hi => gd_eq (f3 70 i rfl (sc i hi))
  obtain ⟨h1, h2, h3⟩ := h
  unfold R1
  rw [f1 _ _ c1, f1 _ _ c2, f1 _ _ c3, f1 _ _ c4, f1 _ _ c5, f1 _ _ c6, f1 _ _ c7, (f2 _ d1).1, (f2 _ d2).1, (f2 _ d3).1, (f2 _ d4).1, (f2 _ d5).1, (f2 _ d6).1, e]
  exact ⟨h1, h2, fun z => R1v_c (h3 z) (g70 144 (Or.inl rfl)) (fun g hg => g70 g (Or.inr hg))⟩
/-- a call keeps R, on both sides -/
noncomputable def opQ (R : sm_H → Prop) (q : lw_D) : Prop := ∀ (as : List Int32) (hp hp1 hp2 : sm_H) (r1 r2 : Int32), as.length = q.2.1 → an_WF hp → ivH IV hp → R hp → EM 400 q.2.2.2.1 (.ref 0 :: as.map Value.int) hp (some (.int r1)) hp1 → an_WF hp1 → ivH IV hp1 → EM 400 q.2.2.2.2.2.1 (.ref 67 :: as.map Value.int) hp1 (some (.int r2)) hp2 → an_WF hp2 → ivH IV hp2 → R hp2
theorem R1_n {q : lw_D} {M M' : List (Nat × Nat)} {W W' : List Nat} (f : fRet q.2.2.2.1 q.2.1 0 M W) (f' : fRet q.2.2.2.2.2.1 q.2.1 67 M' W') (hc : (R1c M W && R1c M' W') = true) : opQ R1 q := fun as hp hp1 hp2 r1 r2 hl hW hI hR m1 hW1 hI1 m2 hW2 hI2 => by
  rw [Bool.and_eq_true] at hc
  exact R1_fr hc.2 (fr_use f' hl hW1 hI1 m2) (R1_fr hc.1 (fr_use f hl hW hI m1) hR)
theorem R1_t {q : lw_D} {M M' : List (Nat × Nat)} {W W' : List Nat} (f : fRet q.2.2.2.1 q.2.1 0 M W) (f' : fRet q.2.2.2.2.2.1 q.2.1 67 M' W') (hc : (R1c M W && R1d M' W') = true) (h : ∀ (as : List Int32) (hp1 hp2 : sm_H) (r2 : Int32), as.length = q.2.1 → ivH IV hp1 → EM 400 q.2.2.2.2.2.1 (.ref 67 :: as.map Value.int) hp1 (some (.int r2)) hp2 → ivH IV hp2 → exA hp2 68 = exA hp1 68) : opQ R1 q := fun as hp hp1 hp2 r1 r2 hl hW hI hR m1 hW1 hI1 m2 hW2 hI2 => by
  rw [Bool.and_eq_true] at hc
  exact R1_fr68 hc.2 (fr_use f' hl hW1 hI1 m2) (h as hp1 hp2 r2 hl hI1 m2 hI2) (R1_fr hc.1 (fr_use f hl hW hI m1) hR)
theorem R1_0 : R1 lw_h0 := ⟨⟨rfl, rfl, fun g hg => (by decide +kernel : ∀ g, g < 12 → (exA lw_h0 5).getD g 0 = (exA lw_h0 68).getD g 0) g hg, fun g hg => (by decide +kernel : ∀ g, g < 12 → (exA lw_h0 6).getD g 0 = (exA lw_h0 68).getD (12 + g) 0) g hg, (by unfold SEATS; decide +kernel)⟩, rfl, fun z => absurd z (by decide +kernel)⟩
set_option maxRecDepth 100000 in
theorem R1_all : ∀ q ∈ lw_ops, opQ R1 q := (al_c (fun as hp hp1 hp2 r1 r2 hl hW hI hR m1 hW1 hI1 m2 hW2 hI2 => R1_measures hl hI hR m1 hI1 m2) (al_c (fun as hp hp1 hp2 r1 r2 hl hW hI hR m1 hW1 hI1 m2 hW2 hI2 => (R1_guest hl hI hR m1 hI1 m2).2) (al_c (R1_n fr_c15 fr_m147 (by decide +kernel)) (al_c (R1_n fr_c16 fr_m148 (by decide +kernel)) (al_c (R1_n fr_c17 fr_m149 (by decide +kernel)) (al_c (R1_n fr_c19 fr_m151 (by decide +kernel)) (al_c (R1_n fr_c42 fr_m172 (by decide +kernel)) (al_c (R1_n fr_c47 fr_m175 (by decide +kernel)) (al_c (R1_t fr_c68 fr_m198 (by decide +kernel) (fun as hp1 hp2 r2 hl hI m hI2 => m_tried hl hI m hI2)) (al_c (R1_n fr_c71 fr_m200 (by decide +kernel)) (al_c (R1_n fr_c73 fr_m201 (by decide +kernel)) (al_c (R1_n fr_c74 fr_m202 (by decide +kernel)) (al_c (R1_n fr_c76 fr_m204 (by decide +kernel)) (al_c (R1_n fr_c80 fr_m208 (by decide +kernel)) (al_c (R1_n fr_c82 fr_m209 (by decide +kernel)) (al_c (R1_n fr_c85 fr_m211 (by decide +kernel)) (al_c (R1_n fr_c87 fr_m214 (by decide +kernel)) (al_c (R1_n fr_c90 fr_m217 (by decide +kernel)) (al_c (R1_n fr_c93 fr_m220 (by decide +kernel)) (al_c (R1_n fr_c95 fr_m221 (by decide +kernel)) (al_c (R1_n fr_c99 fr_m223 (by decide +kernel)) (al_c (R1_n fr_c103 fr_m228 (by decide +kernel)) (al_c (R1_n fr_c111 fr_m232 (by decide +kernel)) (al_c (R1_n fr_c114 fr_m234 (by decide +kernel)) (al_c (R1_n fr_c120 fr_m235 (by decide +kernel)) (al_c (R1_n fr_c122 fr_m236 (by decide +kernel)) (al_c (R1_t fr_c124 fr_m237 (by decide +kernel) (fun as hp1 hp2 r2 hl hI m hI2 => m_where68 hl hI m)) (al_c (R1_t fr_c126 fr_m238 (by decide +kernel) (fun as hp1 hp2 r2 hl hI m hI2 => m_end hl hI m hI2)) (al_c (R1_n fr_c127 fr_m239 (by decide +kernel)) (al_c (R1_n fr_c128 fr_m240 (by decide +kernel)) (al_c (R1_n fr_c131 fr_m243 (by decide +kernel)) (al_c (R1_n fr_c134 fr_m246 (by decide +kernel)) (al_c (fun as hp hp1 hp2 r1 r2 hl hW hI hR m1 hW1 hI1 m2 hW2 hI2 => R1_keep hl hI hR m1 hI1 m2) (al_c (fun as hp hp1 hp2 r1 r2 hl hW hI hR m1 hW1 hI1 m2 hW2 hI2 => R1_undo hl hI hR m1 hI1 m2) (al_c (R1_n fr_c137 fr_m249 (by decide +kernel)) (al_c (R1_n fr_c138 fr_m250 (by decide +kernel)) al_n))))))))))))))))))))))))))))))))))))
