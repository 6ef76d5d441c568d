/-! feed: bytes on both tapes; law and agenda empty both -/
theorem b32_255 {g : Nat} (h : g < 32) : b32 255 g = decide (g < 8) := (by decide +kernel : ∀ g, g < 32 → b32 255 g = decide (g < 8)) g h
theorem ushr_b {x : Int32} {c : UInt32} {s g : Nat} (hc : c.toBitVec % 32 = BitVec.ofNat 32 s) (hs : s < 32) : b32 ((x.toUInt32 >>> c).toInt32) g = b32 x (s + g) := by
  unfold b32
  rw [UInt32.toBitVec_toInt32, UInt32.toBitVec_shiftRight, hc, BitVec.ushiftRight_eq', BitVec.getLsbD_ushiftRight, Int32.toBitVec_toUInt32, BitVec.toNat_ofNat, Nat.mod_eq_of_lt (by omega)]
theorem nar_b {z : Int32} {g : Nat} (h : g < 8) : b32 z.toInt8.toInt32 g = b32 z g := by
  unfold b32
  rw [Int8.toBitVec_toInt32, Int32.toBitVec_toInt8, BitVec.getLsbD_signExtend, if_pos h, BitVec.getLsbD_signExtend, if_pos (by omega), decide_eq_true (show g < 32 by omega), decide_eq_true h]
  rfl
/-- a byte of a number, as the reference writes it -/
noncomputable def bB (x y : Int32) : Int32 := vp_nar .byte ((x >>> ((8 * y) &&& 31)).toInt8.toInt32)
theorem byte_eq {x y : Int32} {c : UInt32} {k : Nat} (hk : k < 4) (hc : c.toBitVec % 32 = BitVec.ofNat 32 (8 * k)) (hy : (8 * y).toInt = ((8 * k : Nat) : Int)) : (x.toUInt32 >>> c).toInt32 &&& 255 = bB x y &&& 255 := by
  apply b32_ext
  intro g hg
  unfold bB
  rw [b32_and, b32_and, b32_255 hg, vp_nar_byte]
  by_cases h : g < 8
  · rw [ushr_b hc (by omega), nar_b h, nar_b h, b32_shr hy (by omega) (by omega)]
  · rw [decide_eq_false h, Bool.and_false, Bool.and_false]
theorem types_eq {n : Int32} {a : List Int32} {x : Int32} : km_types n a x = (n + 1 + 1 + 1 + 1, (((a.set n.toInt.toNat (bB x 3)).set (n + 1).toInt.toNat (bB x (3 + (-1)))).set (n + 1 + 1).toInt.toNat (bB x (3 + (-1) + (-1)))).set (n + 1 + 1 + 1).toInt.toNat (bB x (3 + (-1) + (-1) + (-1)))) := rfl
noncomputable def uB (x : Int32) (s : Int32) : Int32 := (x.toUInt32 >>> (s.toUInt32 &&& Int32.toUInt32 31)).toInt32 &&& 255
theorem add_eq {k : Nat} {a : List Int32} {x : Int32} (hk : k + 4 ≤ 260) (ha : a.length = 260) : kx_add (nI k) a x = (nI k + 1 + 1 + 1 + 1, (((a.set (nI k).toInt.toNat (uB x 24)).set (nI k + 1).toInt.toNat (uB x 16)).set (nI k + 1 + 1).toInt.toNat (uB x 8)).set (nI k + 1 + 1 + 1).toInt.toNat (uB x 0)) := by
  have e0 := nI_toInt (n := k) (by omega)
  have e1 := nI_toInt (n := k + 1) (by omega)
  have e2 := nI_toInt (n := k + 1 + 1) (by omega)
  have e3 := nI_toInt (n := k + 1 + 1 + 1) (by omega)
  have el : (Int32.ofNat 260).toInt = 260 := rfl
  unfold kx_add
  simp only [List.length_set, ha]
  rw [nJ_1 (by omega), nJ_1 (by omega), nJ_1 (by omega), if_pos (by omega), if_pos (by omega), if_pos (by omega), if_pos (by omega)]
  rfl
theorem feed_step {k : Nat} {a b : List Int32} {x : Int32} (hk : k + 4 ≤ 260) (ha : a.length = 260) (hb : b.length = 260) (h : ∀ i, i < k → a.getD i 0 = (b.getD i 0) &&& 255) : (kx_add (nI k) a x).1 = nI (k + 4) ∧ (km_types (nI k) b x).1 = nI (k + 4) ∧ (kx_add (nI k) a x).2.length = 260 ∧ (km_types (nI k) b x).2.length = 260 ∧ ∀ i, i < k + 4 → (kx_add (nI k) a x).2.getD i 0 = ((km_types (nI k) b x).2.getD i 0) &&& 255 := by
  rw [add_eq hk ha, types_eq, nJ_1 (by omega), nJ_1 (by omega), nJ_1 (by omega), nJ_1 (by omega), nJ_ix (by omega), nJ_ix (by omega), nJ_ix (by omega), nJ_ix (by omega)]
  refine ⟨rfl, rfl, by simp only [List.length_set]; exact ha, by simp only [List.length_set]; exact hb, fun i hi => ?_⟩
  dsimp only
  rw [gd_set (by simp only [List.length_set]; omega), gd_set (by simp only [List.length_set]; omega), gd_set (by simp only [List.length_set]; omega), gd_set (by omega), gd_set (by simp only [List.length_set]; omega), gd_set (by simp only [List.length_set]; omega), gd_set (by simp only [List.length_set]; omega), gd_set (by omega)]
  by_cases c3 : i = k + 1 + 1 + 1
  · rw [if_pos c3, if_pos c3]
    exact byte_eq (k := 0) (by omega) rfl rfl
  · rw [if_neg c3, if_neg c3]
    by_cases c2 : i = k + 1 + 1
    · rw [if_pos c2, if_pos c2]
      exact byte_eq (k := 1) (by omega) rfl rfl
    · rw [if_neg c2, if_neg c2]
      by_cases c1 : i = k + 1
      · rw [if_pos c1, if_pos c1]
        exact byte_eq (k := 2) (by omega) rfl rfl
      · rw [if_neg c1, if_neg c1]
        by_cases c0 : i = k
        · rw [if_pos c0, if_pos c0]
          exact byte_eq (k := 3) (by omega) rfl rfl
        · rw [if_neg c0, if_neg c0]
          exact h i (by omega)
theorem feed_pure {n : Int32} {a b : List Int32} {x y z u v : Int32} (hn : 0 ≤ n.toInt ∧ n.toInt ≤ 260) (ha : a.length = 260) (hb : b.length = 260) (h : ∀ i, i < n.toInt.toNat → a.getD i 0 = (b.getD i 0) &&& 255) : (kc_feed n a x y z u v).1 = (km_feed n b x y z u v).1 ∧ R2v (kc_feed n a x y z u v).2.1 (kc_feed n a x y z u v).2.2 (km_feed n b x y z u v).2.1 (km_feed n b x y z u v).2.2 := by
  have e20 : (n + 20).toInt = n.toInt + 20 := by
    have e : (20 : Int32).toInt = 20 := rfl
    rw [an_add32 (by omega) (by omega), e]
  unfold kc_feed km_feed
  by_cases c : 240 < n.toInt
  · rw [if_pos c, if_pos (by omega)]
    exact ⟨rfl, rfl, h⟩
  · rw [if_neg c, if_neg (by omega)]
    obtain ⟨k, hk, rfl⟩ : ∃ k : Nat, k ≤ 240 ∧ n = nI k := ⟨n.toInt.toNat, by omega, nJ_of (by omega)⟩
    rw [nJ_ix (by omega)] at h
    obtain ⟨p1, q1, l1, m1, h1⟩ := feed_step (x := x) (k := k) (by omega) ha hb h
    generalize hA : kx_add (nI k) a x = A1 at p1 l1 h1 ⊢
    generalize hB : km_types (nI k) b x = B1 at q1 m1 h1 ⊢
    rw [p1, q1]
    obtain ⟨p2, q2, l2, m2, h2⟩ := feed_step (x := y) (k := k + 4) (by omega) l1 m1 h1
    generalize hA2 : kx_add (nI (k + 4)) A1.2 y = A2 at p2 l2 h2 ⊢
    generalize hB2 : km_types (nI (k + 4)) B1.2 y = B2 at q2 m2 h2 ⊢
    rw [p2, q2]
    obtain ⟨p3, q3, l3, m3, h3⟩ := feed_step (x := z) (k := k + 4 + 4) (by omega) l2 m2 h2
    generalize hA3 : kx_add (nI (k + 4 + 4)) A2.2 z = A3 at p3 l3 h3 ⊢
    generalize hB3 : km_types (nI (k + 4 + 4)) B2.2 z = B3 at q3 m3 h3 ⊢
    rw [p3, q3]
    obtain ⟨p4, q4, l4, m4, h4⟩ := feed_step (x := u) (k := k + 4 + 4 + 4) (by omega) l3 m3 h3
    generalize hA4 : kx_add (nI (k + 4 + 4 + 4)) A3.2 u = A4 at p4 l4 h4 ⊢
    generalize hB4 : km_types (nI (k + 4 + 4 + 4)) B3.2 u = B4 at q4 m4 h4 ⊢
    rw [p4, q4]
    obtain ⟨p5, q5, l5, m5, h5⟩ := feed_step (x := v) (k := k + 4 + 4 + 4 + 4) (by omega) l4 m4 h4
    generalize hA5 : kx_add (nI (k + 4 + 4 + 4 + 4)) A4.2 v = A5 at p5 l5 h5 ⊢
    generalize hB5 : km_types (nI (k + 4 + 4 + 4 + 4)) B4.2 v = B5 at q5 m5 h5 ⊢
    rw [p5, q5]
    refine ⟨rfl, rfl, fun i hi => h5 i ?_⟩
    rw [nJ_ix (by omega)] at hi
    exact hi
section R2P
variable {as : List Int32} {hp hp1 hp2 : sm_H} {r1 r2 : Int32}
theorem R2_feed (hl : as.length = 5) (hI : ivH IV hp) (hR : R2 hp) (m1 : EM 400 17 (.ref 0 :: as.map Value.int) hp (some (.int r1)) hp1) (hI1 : ivH IV hp1) (m2 : EM 400 149 (.ref 67 :: as.map Value.int) hp1 (some (.int r2)) hp2) : r1 = r2 ∧ R2 hp2 := by
  obtain ⟨x, y, z, u, v, rfl⟩ := ln5 hl
  obtain ⟨e1, h1⟩ := u_kc_feed hI m1
  obtain ⟨e2, h2⟩ := u_km_feed hI1 m2
  have w : exF hp1 67 8 = exF hp 1 1 := by rw [hR.1, h1]; rfl
  have w3 : exA hp1 71 = exA hp 71 := by rw [h1]; rfl
  rw [w, w3] at e2 h2
  have b := iv_fb (k := 1) (j := 1) (b := (0, 260)) hI rfl
  have g := feed_pure (n := exF hp 1 1) (a := exA hp 2) (b := exA hp 71) (x := x) (y := y) (z := z) (u := u) (v := v) b (iv_len hI rfl (by decide)) (iv_len hI rfl (by decide)) hR.2
  rw [← e1, ← e2] at g
  refine ⟨g.1, ?_⟩
  have g2 := g.2
  generalize kc_feed (exF hp 1 1) (exA hp 2) x y z u v = T at g2 h1
  generalize km_feed (exF hp 1 1) (exA hp 71) x y z u v = T' at g2 h2
  subst h2
  subst h1
  exact g2
theorem R2_agenda (hl : as.length = 1) (hI : ivH IV hp) (hR : R2 hp) (m1 : EM 400 95 (.ref 0 :: as.map Value.int) hp (some (.int r1)) hp1) (hI1 : ivH IV hp1) (m2 : EM 400 221 (.ref 67 :: as.map Value.int) hp1 (some (.int r2)) hp2) : R2 hp2 := by
  obtain ⟨x, rfl⟩ := ln1 hl
  obtain ⟨N, h1⟩ := u_kc_agenda hI m1
  obtain ⟨-, h1⟩ := h1 N (Nat.le_refl _)
  obtain ⟨N', h2⟩ := u_km_agenda hI1 m2
  obtain ⟨-, h2⟩ := h2 N' (Nat.le_refl _)
  have w : exF hp1 67 8 = exF hp 1 1 := by rw [hR.1, h1]; rfl
  have w3 : exA hp1 71 = exA hp 71 := by rw [h1]; rfl
  have k1 : exF hp1 1 1 = if kx_has (exF hp 1 1) x 1 60 = 0 then exF hp 1 1 else 0 := by
    generalize hT : kc_agenda N (exF hp 1 1) (exF hp 1 2) (exF hp 1 3) (exF hp 1 4) (exF hp 3 0) (exF hp 3 1) (exA hp 2) (exA hp 6) (exA hp 32) (exA hp 33) (exL hp 11) x = T at h1
    have e : exF hp1 1 1 = T.2.1 := by rw [h1]; rfl
    rw [e, ← hT]
    unfold kc_agenda
    split
    · rfl
    · split <;> rfl
  have k2 : exF hp2 67 8 = if kx_has (exF hp 1 1) x 1 60 = 0 then exF hp 1 1 else 0 := by
    generalize hT : km_agenda N' (exF hp1 67 3) (exF hp1 67 8) (exF hp1 67 9) (exF hp1 67 10) (exF hp1 67 11) (exA hp1 68) (exA hp1 71) (exA hp1 91) x = T at h2
    have e : exF hp2 67 8 = T.2.1 := by rw [h2]; rfl
    rw [e, ← hT]
    unfold km_agenda
    rw [w, has_ref]
    split
    · rfl
    · exact ag_m _ _ _ _
  have k3 : exF hp2 1 1 = exF hp1 1 1 := by rw [h2]; rfl
  have k4 : exA hp2 2 = exA hp 2 := by rw [h2]; show exA hp1 2 = _; rw [h1]; rfl
  have k5 : exA hp2 71 = exA hp 71 := by rw [h2]; show exA hp1 71 = _; rw [w3]
  unfold R2
  rw [k3, k1, k2, k4, k5]
  split
  · exact ⟨rfl, hR.2⟩
  · exact R2v_0
end R2P
