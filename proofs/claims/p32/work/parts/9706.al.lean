/-! parties -/
section AL
variable {Mn : Nat} {M t : Int32} {bi : List Int32} {l11 : List Int64} {now : List Int32}
theorem cmp_0 {x y : Int64} : lg_cmp x y = 0 ↔ x = y := by
  unfold lg_cmp
  by_cases a : x > y
  · rw [if_pos a]
    refine ⟨fun z => absurd z (by decide), fun z => ?_⟩
    rw [z] at a
    exact absurd a Int64.lt_irrefl
  · rw [if_neg a]
    by_cases b : x = y
    · rw [if_pos b]
      exact ⟨fun _ => b, fun _ => rfl⟩
    · rw [if_neg b]
      exact ⟨fun z => absurd z (by decide), fun z => absurd z b⟩
theorem mind_iff (h : VC Mn M t bi l11 now) {g c : Nat} (hg : g < 12) (hc : c < 12) : (∀ i, i < Mn → pl now g i = pl now c i) ↔ l11.getD c 0 = l11.getD g 0 := by
  have hM := h.2.1
  obtain ⟨g1, g2, g3, g4⟩ := h.2.2.2.2.2 g hg
  obtain ⟨c1, c2, c3, c4⟩ := h.2.2.2.2.2 c hc
  constructor
  · intro e
    refine b64_ext fun k _ => ?_
    by_cases k36 : k < 36
    · have a := g1 (k / 6) (by omega) (k % 6) (by omega)
      have b := c1 (k / 6) (by omega) (k % 6) (by omega)
      rw [show 6 * (k / 6) + k % 6 = k by omega] at a b
      rw [a, b]
      refine decide_eq_decide.mpr ⟨fun z => ⟨z.1, z.2.1, ?_⟩, fun z => ⟨z.1, z.2.1, ?_⟩⟩
      · rw [e _ z.1, e _ z.2.1]
        exact z.2.2
      · rw [← e _ z.1, ← e _ z.2.1]
        exact z.2.2
    · rw [g2 k (by omega), c2 k (by omega)]
  · intro e i hi
    rw [e] at c1
    refine Int32.toInt_inj.mp ?_
    rw [g3 i hi, c3 i hi]
    refine congrArg _ (cnt_congr Mn (fun j hj => ?_))
    have a := g1 i (by omega) j (by omega)
    have b := c1 i (by omega) j (by omega)
    rw [a] at b
    have q := decide_eq_decide.mp b
    exact decide_eq_decide.mpr ⟨fun z => (q.mp ⟨hi, hj, z⟩).2.2, fun z => (q.mpr ⟨hi, hj, z⟩).2.2⟩
theorem mind_m (h : VC Mn M t bi l11 now) {g c : Nat} (hg : g < 12) (hc : c < 12) : km_areOfOneMind M now (nI g) (nI c) = 0 ↔ ¬ ∀ i, i < Mn → pl now g i = pl now c i := by
  have hM := h.2.1
  unfold km_areOfOneMind
  rw [vc_tn h]
  have loop : ∀ (m i : Nat), i + m = Mn → (∀ j, j < i → pl now g j = pl now c j) → (km_areOfOneMind_2 now (nI g) (nI c) m (nI i) = 0 ↔ ¬ ∀ i, i < Mn → pl now g i = pl now c i) := by
    intro m
    induction m with
    | zero =>
      intro i hi he
      rw [e0_km_areOfOneMind_2]
      exact ⟨fun z => absurd z (by decide), fun z => absurd (fun j hj => he j (by omega)) z⟩
    | succ m ih =>
      intro i hi he
      rw [e_km_areOfOneMind_2, vc_pl hg (show i < 6 by omega), vc_pl hc (show i < 6 by omega), nJ_1 (n := i) (by omega)]
      by_cases e : pl now g i = pl now c i
      · rw [if_pos e]
        refine ih (i + 1) (by omega) (fun j hj => ?_)
        by_cases e2 : j = i
        · rw [e2]; exact e
        · exact he j (by omega)
      · rw [if_neg e]
        exact ⟨fun _ z => e (z i (by omega)), fun _ => rfl⟩
  exact loop Mn 0 (by omega) (fun j hj => by omega)
theorem party_eq (h : VC Mn M t bi l11 now) {g : Nat} (hg : g < 12) : kt_partyOf t l11 (nI g) = km_partyOf M now (nI g) := by
  unfold kt_partyOf km_partyOf
  have loop : ∀ (m c : Nat) (s : Int32), c + m = 12 → kt_partyOf_4 t l11 (nI g) m s (nI c) = km_partyOf_4 M now (nI g) m s (nI c) := by
    intro m
    induction m with
    | zero => intro c s _; rfl
    | succ m ih =>
      intro c s hc
      rw [e_kt_partyOf_4, e_km_partyOf_4, nJ_1 (n := c) (by omega), nJ_ix (n := c) (by omega), nJ_ix (n := g) (by omega)]
      rcases vc_told h (show c < 12 by omega) with ⟨a, b, -⟩ | ⟨a, b, -⟩
      · rw [if_pos a, if_pos b]
        exact ih (c + 1) s (by omega)
      · rw [if_neg (by rw [a]; decide), if_neg (show ¬ km_isGuest now (nI c) = 0 by rw [b]; decide)]
        have q := (mind_m h hg (show c < 12 by omega))
        by_cases e : l11.getD c 0 = l11.getD g 0
        · rw [if_pos (cmp_0.mpr e), if_neg (fun z => q.mp z ((mind_iff h hg (by omega)).mpr e))]
          exact ih (c + 1) _ (by omega)
        · rw [if_neg (fun z => e (cmp_0.mp z)), if_pos (q.mpr (fun z => e ((mind_iff h hg (by omega)).mp z)))]
          exact ih (c + 1) s (by omega)
  exact loop 12 0 0 rfl
theorem alike_pure (h : VC Mn M t bi l11 now) {x : Int32} : kc_alike t l11 x = km_alike M now x := by
  unfold kc_alike km_alike
  by_cases e : x = 100
  · rw [if_pos e, if_pos e]
    unfold kt_parties
    have loop : ∀ (m g : Nat) (n s : Int32), g + m = 12 → kt_parties_6 t l11 m n s (nI g) = km_alike_31 M now m s n (nI g) := by
      intro m
      induction m with
      | zero => intro g n s _; rfl
      | succ m ih =>
        intro g n s hg
        rw [e_kt_parties_6, e_km_alike_31, nJ_1 (n := g) (by omega)]
        rcases vc_told h (show g < 12 by omega) with ⟨a, b, -⟩ | ⟨a, b, -⟩
        · rw [if_pos a, if_pos b]
          exact ih (g + 1) n s (by omega)
        · rw [if_neg (by rw [a]; decide), if_neg (show ¬ km_isGuest now (nI g) = 0 by rw [b]; decide), party_eq h (show g < 12 by omega)]
          by_cases hb : b32 s g = true
          · rw [if_neg (vt1 (by omega) hb), if_neg (vh1 (by omega) hb)]
            exact ih (g + 1) n s (by omega)
          · have hb := eq_false_of_ne_true hb
            rw [if_pos (vt0 (by omega) hb), if_pos (vh0 (by omega) hb)]
            exact ih (g + 1) _ _ (by omega)
    exact loop 12 0 0 0 rfl
  · rw [if_neg e, if_neg e, told_same h.2.2.1 x]
    rcases km_told now x with ⟨a, -⟩ | ⟨a, b, -⟩
    · rw [if_pos a, if_pos a]
    · rw [if_neg (by rw [a]; decide), if_neg (by rw [a]; decide)]
      obtain ⟨g, hg, rfl⟩ : ∃ g : Nat, g < 12 ∧ x = nI g := ⟨x.toInt.toNat, by omega, nJ_of (by omega)⟩
      exact party_eq h hg
end AL
section ANAL
variable {as : List Int32} {hp hp1 hp2 : sm_H} {r1 r2 : Int32}
theorem an_alike (hl : as.length = 1) (hI : ivH IV hp) (hR : R123 hp) (m1 : EM 400 131 (.ref 0 :: as.map Value.int) hp (some (.int r1)) hp1) (hI1 : ivH IV hp1) (m2 : EM 400 243 (.ref 67 :: as.map Value.int) hp1 (some (.int r2)) hp2) : r1 = r2 := by
  obtain ⟨x, rfl⟩ := ln1 hl
  obtain ⟨e1, h1⟩ := u_kc_alike hI m1
  obtain ⟨e2, -⟩ := u_km_alike hI1 m2
  have w : exA hp1 68 = exA hp 68 := by rw [h1]; rfl
  have w3 : exF hp1 67 3 = exF hp 3 0 := by rw [hR.1.1.1.1, h1]; rfl
  rw [e1, e2, w, w3]
  exact alike_pure (vc_of hI hR.1.1 hR.2)
end ANAL
