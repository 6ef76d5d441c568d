/-! votes: each against each; best of all; the set -/
theorem ix6 : ∀ i, i < 6 → ∀ j, j < 6 → ((nI i * 6) + nI j).toInt.toNat = 6 * i + j ∧ ((6 * nI i) + nI j).toInt.toNat = 6 * i + j := by decide +kernel
section BE
variable {Mn : Nat} {M t : Int32} {bi : List Int32} {l11 : List Int64} {now : List Int32}
theorem wp_17 (h : VC Mn M t bi l11 now) {i : Nat} (hi : i < Mn) : ∀ (m j : Nat) (l : List Int32), j + m = Mn → l.length = 36 → (∀ j', j' < j → l.getD (6 * i + j') 0 = pS t bi now i j') → (kv_weighPairs_17 t bi l11 (nI i) m (nI j) l).length = 36 ∧ (∀ j', j' < Mn → (kv_weighPairs_17 t bi l11 (nI i) m (nI j) l).getD (6 * i + j') 0 = pS t bi now i j') ∧ ∀ q, (q < 6 * i ∨ 6 * i + 6 ≤ q) → (kv_weighPairs_17 t bi l11 (nI i) m (nI j) l).getD q 0 = l.getD q 0 := by
  have hM := h.2.1
  intro m
  induction m with
  | zero =>
    intro j l hj hl he
    rw [e0_kv_weighPairs_17]
    rw [show j = Mn by omega] at he
    exact ⟨hl, he, fun _ _ => rfl⟩
  | succ m ih =>
    intro j l hj hl he
    rw [e_kv_weighPairs_17, (ix6 i (by omega) j (by omega)).1, nJ_1 (n := j) (by omega), pair_c h hi (show j < Mn by omega)]
    obtain ⟨q1, q2, q3⟩ := ih (j + 1) (l.set (6 * i + j) (pS t bi now i j)) (by omega) (by rw [List.length_set]; exact hl) (fun j' hj' => by
      rw [gd_set (by omega)]
      by_cases e : j' = j
      · rw [if_pos (by omega), e]
      · rw [if_neg (by omega)]
        exact he j' (by omega))
    refine ⟨q1, q2, fun q hq => (q3 q hq).trans ?_⟩
    rw [gd_set (by omega), if_neg (by omega)]
theorem wp_10 (h : VC Mn M t bi l11 now) : ∀ (m i : Nat) (l : List Int32), i + m = Mn → l.length = 36 → (∀ i', i' < i → ∀ j, j < Mn → l.getD (6 * i' + j) 0 = pS t bi now i' j) → (kv_weighPairs_10 t bi l11 M m (nI i) l).length = 36 ∧ ∀ i', i' < Mn → ∀ j, j < Mn → (kv_weighPairs_10 t bi l11 M m (nI i) l).getD (6 * i' + j) 0 = pS t bi now i' j := by
  have hM := h.2.1
  intro m
  induction m with
  | zero =>
    intro i l hi hl he
    rw [e0_kv_weighPairs_10]
    rw [show i = Mn by omega] at he
    exact ⟨hl, he⟩
  | succ m ih =>
    intro i l hi hl he
    rw [e_kv_weighPairs_10, nJ_1 (n := i) (by omega), vc_tn h]
    obtain ⟨q1, q2, q3⟩ := wp_17 h (show i < Mn by omega) Mn 0 l (by omega) hl (fun j' hj' => by omega)
    refine ih (i + 1) _ (by omega) q1 (fun i' hi' j hj => ?_)
    by_cases e : i' = i
    · rw [e]
      exact q2 j hj
    · exact (q3 (6 * i' + j) (by omega)).trans (he i' (by omega) j hj)
theorem wp_67 (h : VC Mn M t bi l11 now) {p : List Int32} (hp : ∀ i, i < Mn → ∀ j, j < Mn → p.getD (6 * i + j) 0 = pS t bi now i j) {i : Nat} (hi : i < Mn) : ∀ (m j : Nat) (l : List Int32), j + m = Mn → l.length = 6 → (∀ k, k < 32 → b32 (l.getD i 0) k = decide (k < j ∧ (pS t bi now k i).toInt < (pS t bi now i k).toInt)) → (kv_weighPairs_67 p (nI i) m (nI j) l).length = 6 ∧ (∀ k, k < 32 → b32 ((kv_weighPairs_67 p (nI i) m (nI j) l).getD i 0) k = decide (k < Mn ∧ (pS t bi now k i).toInt < (pS t bi now i k).toInt)) ∧ ∀ q, q ≠ i → (kv_weighPairs_67 p (nI i) m (nI j) l).getD q 0 = l.getD q 0 := by
  have hM := h.2.1
  intro m
  induction m with
  | zero =>
    intro j l hj hl he
    rw [e0_kv_weighPairs_67]
    rw [show j = Mn by omega] at he
    exact ⟨hl, he, fun _ _ => rfl⟩
  | succ m ih =>
    intro j l hj hl he
    rw [e_kv_weighPairs_67, (ix6 i (by omega) j (by omega)).1, (ix6 j (by omega) i (by omega)).1, nJ_1 (n := j) (by omega), nJ_ix (n := i) (by omega), hp i hi j (by omega), hp j (by omega) i hi]
    by_cases c : (pS t bi now j i).toInt < (pS t bi now i j).toInt
    · rw [if_pos c]
      obtain ⟨q1, q2, q3⟩ := ih (j + 1) (l.set i (l.getD i 0 ||| ((1 : Int32) <<< (nI j &&& 31)))) (by omega) (by rw [List.length_set]; exact hl) (fun k hk => by
        rw [gd_set (by omega), if_pos rfl, b32_or, he k hk, b32_bitn (by omega) hk]
        by_cases e : k = j
        · subst e
          rw [decide_eq_true rfl, Bool.or_true]
          exact (decide_eq_true ⟨by omega, c⟩).symm
        · rw [decide_eq_false e, Bool.or_false]
          exact decide_eq_decide.mpr ⟨fun z => ⟨by omega, z.2⟩, fun z => ⟨by omega, z.2⟩⟩)
      refine ⟨q1, q2, fun q hq => (q3 q hq).trans ?_⟩
      rw [gd_set (by omega), if_neg hq]
    · rw [if_neg c]
      refine ih (j + 1) l (by omega) hl (fun k hk => ?_)
      rw [he k hk]
      refine decide_eq_decide.mpr ⟨fun z => ⟨by omega, z.2⟩, fun z => ⟨?_, z.2⟩⟩
      by_cases e : k = j
      · subst e
        exact absurd z.2 c
      · omega
theorem wp_53 (h : VC Mn M t bi l11 now) {p : List Int32} (hp : ∀ i, i < Mn → ∀ j, j < Mn → p.getD (6 * i + j) 0 = pS t bi now i j) : ∀ (m i : Nat) (l : List Int32), i + m = Mn → l.length = 6 → (∀ i', i' < i → ∀ k, k < 32 → b32 (l.getD i' 0) k = decide (k < Mn ∧ (pS t bi now k i').toInt < (pS t bi now i' k).toInt)) → (kv_weighPairs_53 p M m (nI i) l).length = 6 ∧ ∀ i', i' < Mn → ∀ k, k < 32 → b32 ((kv_weighPairs_53 p M m (nI i) l).getD i' 0) k = decide (k < Mn ∧ (pS t bi now k i').toInt < (pS t bi now i' k).toInt) := by
  have hM := h.2.1
  intro m
  induction m with
  | zero =>
    intro i l hi hl he
    rw [e0_kv_weighPairs_53]
    rw [show i = Mn by omega] at he
    exact ⟨hl, he⟩
  | succ m ih =>
    intro i l hi hl he
    rw [e_kv_weighPairs_53, nJ_1 (n := i) (by omega), nJ_ix (n := i) (by omega), vc_tn h]
    obtain ⟨q1, q2, q3⟩ := wp_67 h hp (show i < Mn by omega) Mn 0 (l.set i 0) (by omega) (by rw [List.length_set]; exact hl) (fun k hk => by
      rw [gd_set (by omega), if_pos rfl, b32_0]
      exact (decide_eq_false (fun z => by omega)).symm)
    refine ih (i + 1) _ (by omega) q1 (fun i' hi' k hk => ?_)
    by_cases e : i' = i
    · rw [e]
      exact q2 k hk
    · have q4 := q3 i' e
      rw [gd_set (by omega), if_neg e] at q4
      have q4 : (kv_weighPairs_67 p (nI i) Mn 0 (l.set i 0)).getD i' 0 = l.getD i' 0 := q4
      rw [q4]
      exact he i' (by omega) k hk
theorem weigh_c (h : VC Mn M t bi l11 now) {a32 a33 : List Int32} (h32 : a32.length = 36) (h33 : a33.length = 6) : (∀ i, i < Mn → ∀ j, j < Mn → (kv_weighPairs M t bi a32 a33 l11).1.getD (6 * i + j) 0 = pS t bi now i j) ∧ (kv_weighPairs M t bi a32 a33 l11).2.length = 6 ∧ ∀ i, i < Mn → ∀ k, k < 32 → b32 ((kv_weighPairs M t bi a32 a33 l11).2.getD i 0) k = decide (k < Mn ∧ (pS t bi now k i).toInt < (pS t bi now i k).toInt) := by
  have hM := h.2.1
  obtain ⟨p1, p2⟩ := wp_10 h Mn 0 a32 (by omega) h32 (fun i' hi' => by omega)
  unfold kv_weighPairs
  rw [vc_tn h]
  have p2 : ∀ i, i < Mn → ∀ j, j < Mn → (kv_weighPairs_10 t bi l11 M Mn 0 a32).getD (6 * i + j) 0 = pS t bi now i j := p2
  obtain ⟨q1, q2⟩ := wp_53 h p2 Mn 0 a33 (by omega) h33 (fun i' hi' => by omega)
  exact ⟨p2, q1, q2⟩
theorem beats_m (h : VC Mn M t bi l11 now) {i j : Nat} (hi : i < Mn) (hj : j < Mn) : km_beats now (nI i) (nI j) = if (pS t bi now j i).toInt < (pS t bi now i j).toInt then 1 else 0 := by
  unfold km_beats
  rw [pair_m h hi hj, pair_m h hj hi]
theorem beatsAll_m (h : VC Mn M t bi l11 now) {i : Nat} (hi : i < Mn) {s : Int32} : (km_beatsAll M now (nI i) s = 0 ∧ ∃ j, j < Mn ∧ b32 s j = true ∧ ¬ (pS t bi now j i).toInt < (pS t bi now i j).toInt) ∨ (km_beatsAll M now (nI i) s = 1 ∧ ∀ j, j < Mn → b32 s j = true → (pS t bi now j i).toInt < (pS t bi now i j).toInt) := by
  have hM := h.2.1
  unfold km_beatsAll
  rw [vc_tn h]
  have loop : ∀ (m j : Nat), j + m = Mn → (∀ j', j' < j → b32 s j' = true → (pS t bi now j' i).toInt < (pS t bi now i j').toInt) → (km_beatsAll_2 now (nI i) s m (nI j) = 0 ∧ ∃ j, j < Mn ∧ b32 s j = true ∧ ¬ (pS t bi now j i).toInt < (pS t bi now i j).toInt) ∨ (km_beatsAll_2 now (nI i) s m (nI j) = 1 ∧ ∀ j, j < Mn → b32 s j = true → (pS t bi now j i).toInt < (pS t bi now i j).toInt) := by
    intro m
    induction m with
    | zero =>
      intro j hj he
      rw [e0_km_beatsAll_2]
      exact Or.inr ⟨rfl, fun j' hj' => he j' (by omega)⟩
    | succ m ih =>
      intro j hj he
      rw [e_km_beatsAll_2, nJ_1 (n := j) (by omega), beats_m h hi (show j < Mn by omega)]
      by_cases hb : b32 s j = true
      · rw [if_neg (vh1 (by omega) hb)]
        by_cases c : (pS t bi now j i).toInt < (pS t bi now i j).toInt
        · rw [if_pos c, if_neg (show ¬ (1 : Int32) = 0 by decide)]
          refine ih (j + 1) (by omega) (fun j' hj' hb' => ?_)
          by_cases e : j' = j
          · rw [e]; exact c
          · exact he j' (by omega) hb'
        · rw [if_neg c, if_pos (show (0 : Int32) = 0 from rfl)]
          exact Or.inl ⟨rfl, j, by omega, hb, c⟩
      · rw [if_pos (vh0 (by omega) (eq_false_of_ne_true hb))]
        refine ih (j + 1) (by omega) (fun j' hj' hb' => ?_)
        by_cases e : j' = j
        · rw [e] at hb'
          exact absurd hb' hb
        · exact he j' (by omega) hb'
  exact loop Mn 0 (by omega) (fun j' hj' => by omega)
theorem best_pure (h : VC Mn M t bi l11 now) {a32 a33 : List Int32} (h32 : a32.length = 36) (h33 : a33.length = 6) : (kc_best M t bi a32 a33 l11).1 = km_best M now := by
  have hM := h.2.1
  obtain ⟨p1, p2, p3⟩ := weigh_c h h32 h33
  obtain ⟨eA, eB, eC⟩ := all_b h
  unfold kc_best km_best
  rw [vc_tn h]
  generalize (kv_weighPairs M t bi a32 a33 l11).1 = W1
  generalize hW : (kv_weighPairs M t bi a32 a33 l11).2 = W2 at p2 p3
  have loop : ∀ (m i : Nat), i + m = Mn → (kc_best_17 W1 W2 (kt_allMeasures M) m (nI i)).1 = km_best_2 M now m (nI i) := by
    intro m
    induction m with
    | zero => intro i _; rfl
    | succ m ih =>
      intro i hi
      rw [e_kc_best_17, e_km_best_2, nJ_1 (n := i) (by omega), nJ_ix (n := i) (by omega), eA, eB]
      have c : (W2.getD i 0 ||| ((1 : Int32) <<< (nI i &&& 31)) = nI (2 ^ Mn - 1)) ↔ ∀ j, j < Mn → b32 (nI (2 ^ Mn - 1) &&& (((1 : Int32) <<< (nI i &&& 31)) ^^^ (-1))) j = true → (pS t bi now j i).toInt < (pS t bi now i j).toInt := by
        constructor
        · intro e j hj hb
          rw [b32_and, eC j (by omega), b32_not (by omega), b32_bitn (by omega) (by omega), decide_eq_true hj, Bool.true_and] at hb
          have q := b32_or (W2.getD i 0) ((1 : Int32) <<< (nI i &&& 31)) j
          have ne : ¬ j = i := fun z => by rw [decide_eq_true z] at hb; cases hb
          rw [e, eC j (by omega), decide_eq_true hj, b32_bitn (by omega) (by omega), decide_eq_false ne, Bool.or_false, p3 i (by omega) j (by omega)] at q
          exact (of_decide_eq_true q.symm).2
        · intro e
          refine b32_ext fun j hj => ?_
          rw [b32_or, eC j hj, b32_bitn (by omega) hj, p3 i (by omega) j hj]
          by_cases ne : j = i
          · rw [decide_eq_true ne, Bool.or_true]
            exact (decide_eq_true (by omega)).symm
          · rw [decide_eq_false ne, Bool.or_false]
            refine decide_eq_decide.mpr ⟨fun z => z.1, fun z => ⟨z, e j z ?_⟩⟩
            rw [b32_and, eC j hj, b32_not hj, b32_bitn (by omega) hj, decide_eq_true z, decide_eq_false ne]
            rfl
      rcases beatsAll_m h (show i < Mn by omega) (s := nI (2 ^ Mn - 1) &&& (((1 : Int32) <<< (nI i &&& 31)) ^^^ (-1))) with ⟨b, j, b1, b2, b3⟩ | ⟨b, b1⟩
      · rw [if_pos b, if_neg (fun z => b3 (c.mp z j b1 b2))]
        rw [eA] at ih
        exact ih (i + 1) (by omega)
      · rw [if_pos (c.mpr b1), if_neg (by rw [b]; decide)]
  exact loop Mn 0 (by omega)
theorem bc64 : ∀ s, s < 64 → kji_bitCount (nI s) = km_bits (nI s) := by decide +kernel
theorem bcAll : ∀ n, n < 7 → ∀ b, b < 2 ^ n → ¬ (kji_bitCount (nI (2 ^ n - 1))).toInt < (kji_bitCount (nI b)).toInt := by decide +kernel
theorem rest_c (h : VC Mn M t bi l11 now) {W2 : List Int32} (p3 : ∀ i, i < Mn → ∀ k, k < 32 → b32 (W2.getD i 0) k = decide (k < Mn ∧ (pS t bi now k i).toInt < (pS t bi now i k).toInt)) {s : Int32} : (kv_beatsTheRest M W2 s = 0 ↔ km_isSet M now s = 0) := by
  have hM := h.2.1
  obtain ⟨eA, eB, eC⟩ := all_b h
  unfold kv_beatsTheRest km_isSet
  rw [vc_tn h]
  have loop : ∀ (m i : Nat), i + m = Mn → (kv_beatsTheRest_14 W2 s ((kt_allMeasures M) &&& (s ^^^ (-1))) m (nI i) = 0 ↔ km_isSet_2 M now s m (nI i) = 0) := by
    intro m
    induction m with
    | zero => intro i _; rw [e0_kv_beatsTheRest_14, e0_km_isSet_2]
    | succ m ih =>
      intro i hi
      rw [e_kv_beatsTheRest_14, e_km_isSet_2, nJ_1 (n := i) (by omega), nJ_ix (n := i) (by omega)]
      by_cases hb : b32 s i = true
      · rw [if_neg (vt1 (by omega) hb), if_neg (vh1 (by omega) hb), eA, eB]
        rw [eA] at ih
        have c : ((nI (2 ^ Mn - 1) &&& (s ^^^ (-1))) &&& (W2.getD i 0 ^^^ (-1)) = 0) ↔ ∀ j, j < Mn → b32 (nI (2 ^ Mn - 1) &&& (s ^^^ (-1))) j = true → (pS t bi now j i).toInt < (pS t bi now i j).toInt := by
          constructor
          · intro e j hj hb2
            have q := b32_and (nI (2 ^ Mn - 1) &&& (s ^^^ (-1))) (W2.getD i 0 ^^^ (-1)) j
            rw [e, b32_0, hb2, Bool.true_and, b32_not (by omega), p3 i (by omega) j (by omega)] at q
            by_cases g : (pS t bi now j i).toInt < (pS t bi now i j).toInt
            · exact g
            · rw [decide_eq_false (fun z => g z.2)] at q
              cases q
          · intro e
            refine b32_ext fun j hj => ?_
            rw [b32_and, b32_0]
            by_cases g : b32 (nI (2 ^ Mn - 1) &&& (s ^^^ (-1))) j = true
            · have jM : j < Mn := by
                rw [b32_and, eC j hj, Bool.and_eq_true] at g
                exact of_decide_eq_true g.1
              rw [b32_not hj, p3 i (by omega) j hj, decide_eq_true ⟨jM, e j jM g⟩, g]
              rfl
            · rw [eq_false_of_ne_true g]
              rfl
        rcases beatsAll_m h (show i < Mn by omega) (s := nI (2 ^ Mn - 1) &&& (s ^^^ (-1))) with ⟨b, j, b1, b2, b3⟩ | ⟨b, b1⟩
        · rw [if_pos b, if_neg (fun z => b3 (c.mp z j b1 b2))]
        · rw [if_neg (show ¬ km_beatsAll M now (nI i) (nI (2 ^ Mn - 1) &&& (s ^^^ (-1))) = 0 by rw [b]; decide), if_pos (c.mpr b1)]
          exact ih (i + 1) (by omega)
      · have hb := eq_false_of_ne_true hb
        rw [if_pos (vt0 (by omega) hb), if_pos (vh0 (by omega) hb)]
        exact ih (i + 1) (by omega)
  exact loop Mn 0 (by omega)
theorem set_pure (h : VC Mn M t bi l11 now) {a32 a33 : List Int32} (h32 : a32.length = 36) (h33 : a33.length = 6) : (kc_set M t bi a32 a33 l11).1 = km_set M now := by
  have hM := h.2.1
  obtain ⟨-, p2, p3⟩ := weigh_c h h32 h33
  obtain ⟨eA, eB, eC⟩ := all_b h
  have p64 := pw64 Mn (by omega)
  have pp : 2 ^ Mn - 1 + 1 = 2 ^ Mn := by have := Nat.two_pow_pos Mn; omega
  have p4 : 2 ^ 2 ≤ 2 ^ Mn := Nat.pow_le_pow_right (by omega) hM.1
  show kv_leastBeatingSet M (kv_weighPairs M t bi a32 a33 l11).2 = _
  generalize (kv_weighPairs M t bi a32 a33 l11).2 = W2 at p2 p3
  unfold kv_leastBeatingSet km_set
  rw [eA, eB]
  have eT := nI_toInt (n := 2 ^ Mn - 1) (by omega)
  have loop : ∀ (m s b : Nat), s + m = 2 ^ Mn - 1 → b < 2 ^ Mn → kv_leastBeatingSet_10 M W2 (m + 1) (nI b) (nI s) = km_set_7 M now m (nI b) (nI s) := by
    intro m
    induction m with
    | zero =>
      intro s b hs hb
      rw [e_kv_leastBeatingSet_10, show s = 2 ^ Mn - 1 by omega, if_neg (bcAll Mn (by omega) b hb)]
      rfl
    | succ m ih =>
      intro s b hs hb
      rw [e_kv_leastBeatingSet_10, e_km_set_7, nJ_1 (n := s) (by omega), bc64 s (by omega), bc64 b (by omega)]
      by_cases c : (km_bits (nI s)).toInt < (km_bits (nI b)).toInt
      · rw [if_pos c, if_pos c]
        by_cases d : km_isSet M now (nI s) = 0
        · rw [if_pos d, if_pos ((rest_c h p3).mpr d)]
          exact ih (s + 1) b (by omega) hb
        · rw [if_neg d, if_neg (fun z => d ((rest_c h p3).mp z))]
          exact ih (s + 1) s (by omega) (by omega)
      · rw [if_neg c, if_neg c]
        exact ih (s + 1) b (by omega) hb
  have e1 : ((nI (2 ^ Mn - 1)).toInt + 1 - 1).toNat = (2 ^ Mn - 1 - 1) + 1 := by omega
  have e2 : ((nI (2 ^ Mn - 1)).toInt - 1).toNat = 2 ^ Mn - 1 - 1 := by omega
  rw [e1, e2]
  exact loop (2 ^ Mn - 1 - 1) 1 (2 ^ Mn - 1) (by omega) (by omega)
end BE
section ANBE
variable {as : List Int32} {hp hp1 hp2 : sm_H} {r1 r2 : Int32}
theorem an_best (hl : as.length = 0) (hI : ivH IV hp) (hR : R123 hp) (m1 : EM 400 85 (.ref 0 :: as.map Value.int) hp (some (.int r1)) hp1) (hI1 : ivH IV hp1) (m2 : EM 400 211 (.ref 67 :: as.map Value.int) hp1 (some (.int r2)) hp2) : r1 = r2 := by
  obtain rfl := ln0 hl
  obtain ⟨e1, h1⟩ := u_kc_best hI m1
  obtain ⟨e2, -⟩ := u_km_best hI1 m2
  have w : exA hp1 68 = exA hp 68 := by rw [h1]; rfl
  have w3 : exF hp1 67 3 = exF hp 3 0 := by rw [hR.1.1.1.1, h1]; rfl
  rw [e1, e2, w, w3]
  exact best_pure (vc_of hI hR.1.1 hR.2) (iv_len (k := 32) hI rfl (by decide)) (iv_len (k := 33) hI rfl (by decide))
theorem an_set (hl : as.length = 0) (hI : ivH IV hp) (hR : R123 hp) (m1 : EM 400 87 (.ref 0 :: as.map Value.int) hp (some (.int r1)) hp1) (hI1 : ivH IV hp1) (m2 : EM 400 214 (.ref 67 :: as.map Value.int) hp1 (some (.int r2)) hp2) : r1 = r2 := by
  obtain rfl := ln0 hl
  have vc := vc_of hI hR.1.1 hR.2
  have p64 := pw64 (mN hp) (by have := vc.2.1; omega)
  obtain ⟨e1, h1⟩ := u_kc_set hI (by rw [(all_b vc).1, nI_toInt (n := 2 ^ mN hp - 1) (by omega)]; omega) m1
  obtain ⟨e2, -⟩ := u_km_set hI1 m2
  have w : exA hp1 68 = exA hp 68 := by rw [h1]; rfl
  have w3 : exF hp1 67 3 = exF hp 3 0 := by rw [hR.1.1.1.1, h1]; rfl
  rw [e1, e2, w, w3]
  exact set_pure vc (iv_len (k := 32) hI rfl (by decide)) (iv_len (k := 33) hI rfl (by decide))
end ANBE
