/-! votes: run off -/
theorem small64 {x : Int32} (h : ∀ k, 6 ≤ k → k < 32 → b32 x k = false) : ∃ a, a < 64 ∧ x = nI a := by
  have e : x = x &&& 63 := b32_ext fun k hk => by
    rw [b32_and, b32_63]
    by_cases c : k < 6
    · rw [decide_eq_true c, Bool.and_true]
    · rw [h k (by omega) hk]
      rfl
  have l : (x &&& 63).toBitVec.toNat < 64 := by
    rw [Int32.toBitVec_and, BitVec.toNat_and]
    exact Nat.lt_of_le_of_lt Nat.and_le_right (by decide)
  exact ⟨_, l, e.trans (nJ_of (BitVec.toInt_eq_toNat_of_lt (by omega)))⟩
theorem b32_less {am : Int32} {c k : Nat} (hc : c < 32) (hk : k < 32) : b32 (am &&& (((1 : Int32) <<< (nI c &&& 31)) ^^^ (-1))) k = (b32 am k && !decide (k = c)) := by
  rw [b32_and, b32_not hk, b32_bitn hc hk]
theorem cnt_z {f : Nat → Bool} : ∀ (n : Nat), cnt n f = 0 → ∀ i, i < n → f i = false
  | n + 1, h, i, hi => by
    have h : cnt n f + (if f n = true then 1 else 0) = 0 := h
    by_cases e : f n = true
    · rw [if_pos e] at h
      omega
    · rw [if_neg e] at h
      by_cases e2 : i = n
      · rw [e2]
        exact eq_false_of_ne_true e
      · exact cnt_z n (by omega) i (by omega)
theorem cnt_p {f : Nat → Bool} : ∀ (n : Nat), 0 < cnt n f → ∃ i, i < n ∧ f i = true
  | 0, h => absurd h (by show ¬ 0 < 0; omega)
  | n + 1, h => by
    have h : 0 < cnt n f + (if f n = true then 1 else 0) := h
    by_cases e : f n = true
    · exact ⟨n, by omega, e⟩
    · rw [if_neg e] at h
      obtain ⟨i, h1, h2⟩ := cnt_p n (by omega)
      exact ⟨i, by omega, h2⟩
section RU
variable {Mn : Nat} {M t : Int32} {bi : List Int32} {l11 : List Int64} {now : List Int32}
/-- who goes out, by tallies that are alike -/
theorem go_lock (h2 : 2 ≤ Mn ∧ Mn ≤ 6) (hM : M.toInt = (Mn : Int)) {a35 b : List Int32} {am x2 x3 : Int32} {a : Nat} (hX : (am * 6).toInt = ((6 * a : Nat) : Int)) (ha : a < 64) (hv : ∀ i, i < Mn → b32 am i = true → a35.getD (6 * a + i) 0 + (if nI i = x2 then x3 else 0) = b.getD i 0) (hbd : ∀ i, i < Mn → b32 am i = true → (b.getD i 0).toInt ≤ 240) (hne : ∃ i, i < Mn ∧ b32 am i = true) : ∃ c, c < Mn ∧ b32 am c = true ∧ kv_goesOut M a35 am x2 x3 = nI c ∧ km_runsOff_28 b am Mn (-1) 0 = nI c := by
  have e240 : (240 : Int32).toInt = 240 := rfl
  have loop : ∀ (m i : Nat) (y4 y5 y3 : Int32), i + m = Mn → ((y4 = 240 ∧ y3 = -1 ∧ ∀ j, j < i → b32 am j = false) ∨ ∃ c, c < i ∧ b32 am c = true ∧ y4 = b.getD c 0 ∧ y5 = nI c ∧ y3 = nI c) → ∃ c, c < Mn ∧ b32 am c = true ∧ kv_goesOut_11 a35 am x2 x3 m y4 y5 (nI i) = nI c ∧ km_runsOff_28 b am m y3 (nI i) = nI c := by
    intro m
    induction m with
    | zero =>
      intro i y4 y5 y3 hi hs
      rcases hs with ⟨-, -, z⟩ | ⟨c, c1, c2, -, c3, c4⟩
      · obtain ⟨j, j1, j2⟩ := hne
        rw [z j (by omega)] at j2
        cases j2
      · exact ⟨c, by omega, c2, c3, c4⟩
    | succ m ih =>
      intro i y4 y5 y3 hi hs
      have iM : i < Mn := by omega
      rw [e_kv_goesOut_11, e_km_runsOff_28, nJ_ad (n := i) hX (by omega), nJ_1 (n := i) (by omega)]
      by_cases hb : b32 am i = true
      · have v := hv i iM hb
        have bd := hbd i iM hb
        have flat : ∀ (w : Int32) (p q : Int32), a35.getD (6 * a + i) 0 + w = b.getD i 0 → (∃ c, c < Mn ∧ b32 am c = true ∧ (if ((am >>> (nI i &&& 31)) &&& 1) = 0 then p else (if y4.toInt < (a35.getD (6 * a + i) 0 + w).toInt then kv_goesOut_11 a35 am x2 x3 m y4 y5 (nI (i + 1)) else kv_goesOut_11 a35 am x2 x3 m (a35.getD (6 * a + i) 0 + w) (nI i) (nI (i + 1)))) = nI c ∧ (if km_has am (nI i) = 0 then q else (if y3 = -1 then km_runsOff_28 b am m (nI i) (nI (i + 1)) else (if (b.getD y3.toInt.toNat 0).toInt < (b.getD (nI i).toInt.toNat 0).toInt then km_runsOff_28 b am m y3 (nI (i + 1)) else km_runsOff_28 b am m (nI i) (nI (i + 1))))) = nI c) := fun w p q ew => by
          rw [ew, if_neg (vt1 (by omega) hb), if_neg (vh1 (by omega) hb), nJ_ix (n := i) (by omega)]
          rcases hs with ⟨s1, s2, s3⟩ | ⟨c, c1, c2, c3, c4, c5⟩
          · rw [s1, s2, if_pos rfl, e240, if_neg (by omega)]
            exact ih (i + 1) _ _ _ (by omega) (Or.inr ⟨i, by omega, hb, rfl, rfl, rfl⟩)
          · rw [c3, c5, if_neg (nI_m1 (by omega)), nJ_ix (n := c) (by omega)]
            by_cases l : (b.getD c 0).toInt < (b.getD i 0).toInt
            · rw [if_pos l, if_pos l]
              exact ih (i + 1) _ _ _ (by omega) (Or.inr ⟨c, by omega, c2, rfl, c4, rfl⟩)
            · rw [if_neg l, if_neg l]
              exact ih (i + 1) _ _ _ (by omega) (Or.inr ⟨i, by omega, hb, rfl, rfl, rfl⟩)
        by_cases e : nI i = x2
        · rw [if_pos e] at v ⊢
          exact flat x3 _ _ v
        · rw [if_neg e] at v ⊢
          exact flat 0 _ _ v
      · have hb := eq_false_of_ne_true hb
        rw [if_pos (vh0 (by omega) hb)]
        have nx : ∃ c, c < Mn ∧ b32 am c = true ∧ kv_goesOut_11 a35 am x2 x3 m y4 y5 (nI (i + 1)) = nI c ∧ km_runsOff_28 b am m y3 (nI (i + 1)) = nI c := by
          refine ih (i + 1) y4 y5 y3 (by omega) ?_
          rcases hs with ⟨s1, s2, s3⟩ | ⟨c, c1, c2, c3, c4, c5⟩
          · refine Or.inl ⟨s1, s2, fun j hj => ?_⟩
            by_cases e : j = i
            · rw [e]; exact hb
            · exact s3 j (by omega)
          · exact Or.inr ⟨c, by omega, c2, c3, c4, c5⟩
        by_cases e : nI i = x2
        · rw [if_pos e, if_pos (vt0 (by omega) hb)]
          exact nx
        · rw [if_neg e, if_pos (vt0 (by omega) hb)]
          exact nx
  unfold kv_goesOut
  rw [show M.toInt.toNat = Mn by omega]
  exact loop Mn 0 240 0 (-1) (by omega) (Or.inl ⟨rfl, rfl, fun j hj => by omega⟩)
/-- a round of the run off -/
theorem ro_go (h : VC Mn M t bi l11 now) {am : Int32} (hs : ∀ i, Mn ≤ i → i < 32 → b32 am i = false) (hne : ∃ i, i < Mn ∧ b32 am i = true) {a35 a87 : List Int32} (h35 : a35.length = 384) (h87 : a87.length = 6) : ∃ c, c < Mn ∧ b32 am c = true ∧ kv_goesOut M (kv_tallyFirsts M t bi a35 l11 am (-1)) am (-1) 0 = nI c ∧ km_runsOff_28 (km_laysFirsts M now a87 am 0) am Mn (-1) 0 = nI c := by
  have hM := h.2.1
  obtain ⟨a, ha, hA⟩ := small64 (x := am) (fun k h1 h2 => hs k (by omega) h2)
  have hX : (am * 6).toInt = ((6 * a : Nat) : Int) := by
    rw [hA]
    exact (by decide +kernel : ∀ a, a < 64 → (nI a * 6).toInt = ((6 * a : Nat) : Int)) a ha
  obtain ⟨t1, t2⟩ := tally_c h h35 ha hA hne (w := -1)
  obtain ⟨d1, d2⟩ := lays_m h h87 hne (w := 0)
  refine go_lock h.2.1 h.1 hX ha (fun i hi hb => ?_) (fun i hi hb => ?_) hne
  · rw [if_neg (nI_m1 (by omega)), Int32.add_zero, t2 _ (by omega), if_pos (by omega), show 6 * a + i - 6 * a = i by omega, d2 i (by omega)]
    unfold vF
    refine sg_congr 12 (fun g hg => ?_)
    show (if b32 t g = true ∧ decide (nI g = -1) = false ∧ km_highestOf M now (nI g) am = nI i then bi.getD g 0 else 0) = (if b32 t g = true ∧ b32 0 g = false ∧ km_highestOf M now (nI g) am = nI i then bi.getD g 0 else 0)
    rw [decide_eq_false (show ¬ nI g = -1 from nI_m1 (by omega)), b32_0]
  · rw [d2 i (by omega)]
    exact (vF_bd h).2
theorem ro_lock (h : VC Mn M t bi l11 now) : ∀ (m k : Nat) (am : Int32) (a35 a36 a87 a89 : List Int32), k + m = Mn - 1 → (∀ i, Mn ≤ i → i < 32 → b32 am i = false) → cnt Mn (b32 am) = Mn - k → a35.length = 384 → a36.length = 6 → a87.length = 6 → a89.length = 6 → (∀ q, q < k → a36.getD q 0 = a89.getD q 0) → (∀ q, q < Mn - 1 → (kv_countRunOff_10 M t bi l11 (m + 1) am (nI k) a35 a36).2.getD q 0 = (km_runsOff_7 M now m am (nI k) a87 a89).2.2.getD q 0) ∧ ∃ c, c < Mn ∧ (kv_countRunOff_10 M t bi l11 (m + 1) am (nI k) a35 a36).2.getD (Mn - 1) 0 = nI c ∧ b32 (km_runsOff_7 M now m am (nI k) a87 a89).1 c = true ∧ ∀ j, j < Mn → j ≠ c → b32 (km_runsOff_7 M now m am (nI k) a87 a89).1 j = false := by
  have hM := h.2.1
  intro m
  induction m with
  | zero =>
    intro k am a35 a36 a87 a89 hk hs hc h35 h36 h87 h89 he
    have hne := cnt_p (f := b32 am) Mn (by omega)
    obtain ⟨c, c1, c2, c3, -⟩ := ro_go h hs hne h35 h87
    rw [e_kv_countRunOff_10, e0_kv_countRunOff_10, e0_km_runsOff_7, c3, nJ_ix (n := k) (by omega)]
    refine ⟨fun q hq => ?_, c, c1, ?_, c2, fun j hj hn => ?_⟩
    · show (a36.set k (nI c)).getD q 0 = a89.getD q 0
      rw [gd_set (by omega), if_neg (by omega)]
      exact he q (by omega)
    · show (a36.set k (nI c)).getD (Mn - 1) 0 = nI c
      rw [gd_set (by omega), if_pos (by omega)]
    · have e := cnt_1 (f := fun k => b32 am k && !decide (k = c)) (g := b32 am) (k := c) Mn c1 (by rw [decide_eq_true rfl]; simp) c2 (fun i _ hn => by rw [decide_eq_false hn]; simp)
      have z := cnt_z (f := fun k => b32 am k && !decide (k = c)) Mn (by omega) j hj
      rw [decide_eq_false hn] at z
      show b32 am j = false
      simpa using z
  | succ m ih =>
    intro k am a35 a36 a87 a89 hk hs hc h35 h36 h87 h89 he
    have hne := cnt_p (f := b32 am) Mn (by omega)
    obtain ⟨c, c1, c2, c3, c4⟩ := ro_go h hs hne h35 h87
    obtain ⟨a, ha, hA⟩ := small64 (x := am) (fun k h1 h2 => hs k (by omega) h2)
    rw [e_kv_countRunOff_10, e_km_runsOff_7, vc_tn h, c3, c4, nJ_ix (n := k) (by omega), nJ_1 (n := k) (by omega), gd_set (by omega), if_pos rfl]
    refine ih (k + 1) _ _ _ _ _ (by omega) (fun i h1 h2 => ?_) ?_ (tally_c h h35 ha hA hne).1 (by rw [List.length_set]; exact h36) (lays_m h h87 hne).1 (by rw [List.length_set]; exact h89) (fun q hq => ?_)
    · rw [b32_less (by omega) h2, hs i h1 h2]
      rfl
    · have e := cnt_1 (f := b32 (am &&& (((1 : Int32) <<< (nI c &&& 31)) ^^^ (-1)))) (g := b32 am) (k := c) Mn c1 (by rw [b32_less (by omega) (by omega), decide_eq_true rfl]; simp) c2 (fun i hi hn => by rw [b32_less (by omega) (by omega), decide_eq_false hn]; simp)
      omega
    · rw [gd_set (by omega), gd_set (by omega)]
      by_cases e : q = k
      · rw [if_pos e, if_pos e]
      · rw [if_neg e, if_neg e]
        exact he q (by omega)
theorem ro_99 {x : Int32} {c : Nat} (hc : c < 12) (h1 : b32 x c = true) (h0 : ∀ j, j < c → b32 x j = false) : ∀ (m i : Nat), i ≤ c → c < i + m → km_runsOff_99 x m (nI i) = nI c := by
  intro m
  induction m with
  | zero => intro i h1 h2; omega
  | succ m ih =>
    intro i hi hm
    rw [e_km_runsOff_99, nJ_1 (n := i) (by omega)]
    by_cases e : i = c
    · subst e
      rw [if_neg (vh1 (by omega) h1)]
    · rw [if_pos (vh0 (by omega) (h0 i (by omega)))]
      exact ih (i + 1) (by omega) (by omega)
theorem cnt_all (h : VC Mn M t bi l11 now) : cnt Mn (b32 (nI (2 ^ Mn - 1))) = Mn := by
  have hM := h.2.1
  exact (by decide +kernel : ∀ n, n < 7 → cnt n (b32 (nI (2 ^ n - 1))) = n) Mn (by omega)
/-- the run off on both sides -/
theorem ro_both (h : VC Mn M t bi l11 now) {a35 a36 a87 a89 : List Int32} (h35 : a35.length = 384) (h36 : a36.length = 6) (h87 : a87.length = 6) (h89 : a89.length = 6) {f : Nat} (hf : 12 ≤ f) : (∀ q, q < Mn - 1 → (kv_countRunOff M t bi a35 a36 l11).2.getD q 0 = (km_runsOff f M now a87 a89).2.2.getD q 0) ∧ ∃ c, c < Mn ∧ (kv_countRunOff M t bi a35 a36 l11).2.getD (Mn - 1) 0 = nI c ∧ (km_runsOff f M now a87 a89).1 = nI c := by
  have hM := h.2.1
  obtain ⟨eA, eB, eC⟩ := all_b h
  have e1 : (M - 1).toInt.toNat = Mn - 1 := by
    rw [nJ_of h.1]
    exact (by decide +kernel : ∀ n, n < 7 → 2 ≤ n → (nI n - 1).toInt.toNat = n - 1) Mn (by omega) hM.1
  have q := ro_lock h (Mn - 1) 0 (nI (2 ^ Mn - 1)) a35 a36 a87 a89 (by omega) (fun i h1 h2 => by rw [eC i h2]; exact decide_eq_false (by omega)) (by rw [cnt_all h]; rfl) h35 h36 h87 h89 (fun q hq => by omega)
  rw [show Mn - 1 + 1 = Mn by omega] at q
  unfold kv_countRunOff km_runsOff
  rw [vc_tn h, eA, eB, e1]
  obtain ⟨q1, c, c1, c2, c3, c4⟩ := q
  exact ⟨q1, c, c1, c2, ro_99 (c := c) (by omega) c3 (fun j hj => c4 j (by omega) (by omega)) f 0 (by omega) (by omega)⟩
theorem runOff_pure (h : VC Mn M t bi l11 now) {a35 a36 a87 a89 : List Int32} (h35 : a35.length = 384) (h36 : a36.length = 6) (h87 : a87.length = 6) (h89 : a89.length = 6) {f : Nat} (hf : 12 ≤ f) {x : Int32} : (kc_runOff M t bi a35 a36 l11 x).1 = (km_runOff f M now a87 a89 x).1 := by
  have hM := h.2.1
  obtain ⟨q1, c, c1, c2, c3⟩ := ro_both h h35 h36 h87 h89 hf
  have e1 : (M - 1).toInt.toNat = Mn - 1 ∧ M - 1 - 1 = M - 2 ∧ (M - 2).toInt = (Mn : Int) - 2 := by
    rw [nJ_of h.1]
    exact (by decide +kernel : ∀ n : Nat, n < 7 → 2 ≤ n → (nI n - 1).toInt.toNat = n - 1 ∧ nI n - 1 - 1 = nI n - 2 ∧ (nI n - 2).toInt = (n : Int) - 2) Mn (by omega) hM.1
  unfold kc_runOff km_runOff
  rw [within_in, e1.1, e1.2.1]
  by_cases e : x = 10
  · rw [if_pos e, if_pos e]
    exact c2.trans c3.symm
  · rw [if_neg e, if_neg e]
    by_cases r : km_in x 0 (M - 2) = 0
    · rw [if_pos r, if_pos r]
    · rw [if_neg r, if_neg r]
      have e0 : (0 : Int32).toInt = 0 := rfl
      rw [in_0, e0, e1.2.2, Decidable.not_not] at r
      exact q1 x.toInt.toNat (by omega)
end RU
section ANRU
variable {as : List Int32} {hp hp1 hp2 : sm_H} {r1 r2 : Int32}
theorem an_runOff (hl : as.length = 1) (hI : ivH IV hp) (hR : R123 hp) (m1 : EM 400 82 (.ref 0 :: as.map Value.int) hp (some (.int r1)) hp1) (hI1 : ivH IV hp1) (m2 : EM 400 209 (.ref 67 :: as.map Value.int) hp1 (some (.int r2)) hp2) : r1 = r2 := by
  obtain ⟨x, rfl⟩ := ln1 hl
  obtain ⟨e1, h1⟩ := u_kc_runOff hI m1
  obtain ⟨N, e2⟩ := u_km_runOff hI1 m2
  obtain ⟨e2, -⟩ := e2 (N + 12) (by omega)
  have w : exA hp1 68 = exA hp 68 := by rw [h1]; rfl
  have w3 : exF hp1 67 3 = exF hp 3 0 := by rw [hR.1.1.1.1, h1]; rfl
  rw [e1, e2, w, w3]
  exact runOff_pure (vc_of hI hR.1.1 hR.2) (iv_len (k := 35) hI rfl (by decide)) (iv_len (k := 36) hI rfl (by decide)) (iv_len (k := 87) hI1 rfl (by decide)) (iv_len (k := 89) hI1 rfl (by decide)) (by omega)
end ANRU
