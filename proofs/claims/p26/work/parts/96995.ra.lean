/-! a RANKING: both sides keep it and answer alike -/
section RKA
variable {n1 f1 f2 f3 M t x y f8 f9 f10 f11 : Int32} {ta tb now a85 c : List Int32} {l11 : List Int64} {Mn gx : Nat}
theorem ahead_iff {p : Nat → Int32} (hM : Mn ≤ 6) (h : R3g Mn (l11.getD x.toInt.toNat 0) p) : ∀ i, i < Mn → ∀ j, j < Mn → (kt_aheadOf l11 x (nI i) = kt_aheadOf l11 x (nI j) ↔ (p i).toInt.toNat = (p j).toInt.toNat) := fun i hi j hj => by
  obtain ⟨h1, h2, h3, h4⟩ := h
  have ei := nI_toInt (n := i) (by omega)
  have ej := nI_toInt (n := j) (by omega)
  have c1 := h3 i hi
  have c2 := h3 j hj
  constructor
  · intro e
    have q : ∀ g, g < Mn → decide ((p g).toInt < (p i).toInt) = decide ((p g).toInt < (p j).toInt) := fun g hg => by
      have a1 := ahead_b (l := l11) (x := x) ei (by omega) g
      have a2 := ahead_b (l := l11) (x := x) ej (by omega) g
      rw [e, a2, decide_eq_true (show g < 6 by omega), Bool.true_and, Bool.true_and, h1 i (by omega) g (by omega), h1 j (by omega) g (by omega)] at a1
      have a3 := decide_eq_decide.mp a1
      exact decide_eq_decide.mpr ⟨fun z => (a3.mpr ⟨hi, hg, z⟩).2.2, fun z => (a3.mp ⟨hj, hg, z⟩).2.2⟩
    rw [c1, c2, cnt_congr Mn q]
  · intro e
    have e2 : (p i).toInt = (p j).toInt := by omega
    refine b32_ext fun g _ => ?_
    rw [ahead_b ei (by omega), ahead_b ej (by omega)]
    by_cases hg : g < 6
    · rw [decide_eq_true hg, Bool.true_and, Bool.true_and, h1 i (by omega) g hg, h1 j (by omega) g hg, e2]
      exact decide_eq_decide.mpr ⟨fun z => ⟨hj, z.2⟩, fun z => ⟨hi, z.2⟩⟩
    · rw [decide_eq_false hg, Bool.false_and, Bool.false_and]
theorem rk_put (hx : x.toInt = (gx : Int)) (hg : gx < 12) (hM : Mn ≤ 6) : ∀ (m k : Nat) (a : List Int32), k + m = Mn → a.length = 150 → ∀ j, (km_ranking_245 c x m (nI k) a).getD j 0 = if 72 + 6 * gx + k ≤ j ∧ j < 72 + 6 * gx + Mn then c.getD (j - (72 + 6 * gx)) 0 else a.getD j 0
  | 0, k, a, hk, ha, j => by
    rw [if_neg (by omega)]
    rfl
  | m + 1, k, a, hk, ha, j => by
    have e := nI_toInt (n := k) (by omega)
    have q := pl_idx (x := x) (i := nI k) ⟨by omega, by omega⟩ ⟨by omega, by omega⟩
    have ix : ((72 + (6 * x)) + nI k).toInt.toNat = 72 + 6 * gx + k := by omega
    unfold km_ranking_245
    rw [ix, nJ_ix (n := k) (by omega), nJ_1 (n := k) (by omega), rk_put hx hg hM m (k + 1) _ (by omega) (by rw [List.length_set]; exact ha) j, gd_set (by omega)]
    by_cases e1 : j = 72 + 6 * gx + k
    · rw [if_neg (by omega), if_pos e1, if_pos (by omega), show j - (72 + 6 * gx) = k by omega]
    · rw [if_neg e1]
      by_cases e2 : 72 + 6 * gx + k ≤ j ∧ j < 72 + 6 * gx + Mn
      · rw [if_pos e2, if_pos (by omega)]
      · rw [if_neg e2, if_neg (by omega)]
theorem st_sn {p : Nat → Int32} {y1 : Int64} {y3 y4 : Int32} {sn pn : Nat} {P : Nat → Nat} (hM : M.toInt = (Mn : Int)) (h6 : Mn ≤ 6) (h : JR Mn Mn (b32 y3) (b32 y4) (b64 y1) pn sn P) (hp : ∀ i, i < Mn → p i = nI (P i)) (hr : R3g Mn (l11.getD x.toInt.toNat 0) p) : kt_steps M l11 x = nI sn := by
  have lt := JR_lt h
  obtain ⟨h1, h2, h3, h4, h5, h6', h7, h8, h9, h10⟩ := h
  have all : ∀ i, i < Mn → b32 y3 i = true := fun i hi => by
    cases e : b32 y3 i with
    | true => rfl
    | false =>
      have := cnt_lt (f := b32 y3) (g := fun _ => true) (k := i) Mn (fun _ _ _ => rfl) hi e rfl
      have := cnt_n (f := fun _ => true) Mn
      omega
  have pt : ∀ i, i < Mn → (p i).toInt.toNat = P i := fun i hi => by
    have := lt i (all i hi)
    rw [hp i hi, nJ_ix (by omega)]
  have q := st_4 (l := l11) (x := x) (P := P) (fun i hi j hj => by rw [ahead_iff h6 hr i hi j hj, pt i hi, pt j hj]) h6 Mn 0 (by omega)
  unfold kt_steps
  rw [show M.toInt.toNat = Mn by omega]
  refine Eq.trans q ?_
  rw [← vals Mn (fun i hi => by have := lt i (all i hi); omega), h10]
  refine congrArg nI (cnt_congr 6 (fun v _ => ?_))
  have ex : ∀ n, n ≤ Mn → exv n (fun i => decide (P i = v)) = exv n (fun i => b32 y3 i && decide (P i = v)) := fun n => by
    induction n with
    | zero => intro _; rfl
    | succ n ih =>
      intro hn
      show (exv n (fun i => decide (P i = v)) || decide (P n = v)) = (exv n (fun i => b32 y3 i && decide (P i = v)) || (b32 y3 n && decide (P n = v)))
      rw [ih (by omega), all n (by omega), Bool.true_and]
  exact ex Mn (Nat.le_refl _)
theorem and_255 (z : Int32) : z &&& 255 ≠ -1 := fun e => by
  have := b32_and z 255 31
  rw [e, b32_m1 (by omega), show b32 255 31 = false by decide +kernel, Bool.and_false] at this
  cases this
theorem rank_3 (hM : M.toInt = (Mn : Int)) (h2 : 2 ≤ Mn ∧ Mn ≤ 6) (ht : t = now.getD 144 0) (hT : R2v n1 ta f8 tb) (hl : ta.length = 260) (h85 : a85.length = 6) (h150 : now.length = 150) (h12 : l11.length = 12) (hR : R3v Mn l11 now) : (kc_ranking n1 f1 f2 f3 M t ta l11 x y).1 = (km_ranking M f8 f9 f10 f11 now tb a85 x y).1 ∧ R3v Mn (kc_ranking n1 f1 f2 f3 M t ta l11 x y).2.2.2.2.2 (km_ranking M f8 f9 f10 f11 now tb a85 x y).2.2.2.2.2.1 := by
  unfold kc_ranking km_ranking
  rw [has_ref, ← hT.1, told_same ht]
  rcases km_told now x with ⟨e, -⟩ | ⟨e, hx1, hx2⟩
  · rw [if_pos e, if_pos e]
    exact ⟨rfl, hR⟩
  · rw [e, if_neg (show ¬ (1 : Int32) = 0 by decide), if_neg (show ¬ (1 : Int32) = 0 by decide)]
    by_cases c2 : kx_has n1 y 1 40 = 0
    · rw [if_pos c2, if_pos c2]
      exact ⟨rfl, hR⟩
    · rw [if_neg c2, if_neg c2]
      have hy : (1 ≤ y.toInt ∧ y.toInt ≤ 40) ∧ y.toInt ≤ n1.toInt := by
        rw [has_eq, Decidable.not_not] at c2
        refine ⟨?_, c2.2⟩
        have := (not_congr (in_0 (x := y) (a := 1) (b := 40))).mp (by rw [c2.1]; decide)
        rw [Decidable.not_not] at this
        exact this
      have hs : ∀ p, p ≤ 20 → kx_sign y (nI p) ta = km_here (nI p) y tb := fun p hp => by
        have e1 := nI_toInt (n := p) (by omega)
        have e2 : (Int32.ofNat ta.length).toInt = 260 := by rw [hl]; rfl
        unfold kx_sign km_here
        rw [if_neg (by omega), e2]
        by_cases a : (nI p).toInt < y.toInt
        · rw [if_pos a, if_pos a, if_pos (by omega), nJ_ix (n := p) (by omega)]
          exact hT.2 p (by omega)
        · rw [if_neg a, if_neg a]
      have hn : ∀ p, p ≤ 20 → (km_here (nI p) y tb = -1 ↔ ¬ (nI p).toInt < y.toInt) := fun p hp => by
        unfold km_here
        by_cases a : (nI p).toInt < y.toInt
        · rw [if_pos a]
          exact ⟨fun z => absurd z (and_255 _), fun z => absurd a z⟩
        · rw [if_neg a]
          exact ⟨fun _ => a, fun _ => rfl⟩
      have j0 : JR Mn 0 (b32 0) (b32 0) (b64 0) 0 0 (fun _ => 0) := by
        rw [show b32 0 = (fun _ => false) from funext b32_0, show b64 0 = (fun _ => false) from funext b64_0]
        exact JR_0
      have R := rk_lock (x1 := x) (now := now) (E := y) (f11 := f11) hM h2 hs hn Mn 0 0 0 0 0 0 0 a85 (fun _ => 0) (by omega) (by omega) ⟨j0, h85, fun i z => by rw [b32_0] at z; cases z⟩
      have em : M.toInt.toNat = Mn := by omega
      rw [show kx_open y = (y, 0, 0) from rfl]
      dsimp only
      have ek : kc_readRanking y 0 0 M ta = kc_readRanking_10 y 0 M ta Mn 0 0 0 (nI 0) (nI 0) := by unfold kc_readRanking; rw [em]; rfl
      have et : km_ranking_54 M 0 y f11 now tb x M.toInt.toNat 0 0 0 0 0 a85 = km_ranking_54 M 0 y f11 now tb x Mn 0 (nI 0) (nI 0) (nI 0) (nI 0) a85 := by rw [em]; rfl
      rw [ek, et]
      generalize kc_readRanking_10 y 0 M ta Mn 0 0 0 (nI 0) (nI 0) = K at R ⊢
      generalize km_ranking_54 M 0 y f11 now tb x Mn 0 (nI 0) (nI 0) (nI 0) (nI 0) a85 = T at R ⊢
      rcases R with ⟨r1, r2, r3⟩ | ⟨r1, y3, y4, sn, pn, c, P, ⟨r2, r3, r4⟩, r5, r6⟩
      · rw [if_neg r1, r2, r3]
        exact ⟨rfl, hR⟩
      · rw [if_pos r1, r5, r6]
        obtain ⟨gx, hgx, hx⟩ : ∃ gx : Nat, gx < 12 ∧ x.toInt = (gx : Int) := ⟨x.toInt.toNat, by omega, by omega⟩
        have ex : x.toInt.toNat = gx := by omega
        have put := rk_put (c := c) hx hgx h2.2 Mn 0 now (by omega) h150
        rw [ex, em]
        have all : ∀ i, i < Mn → b32 y3 i = true := fun i hi => by
          cases e : b32 y3 i with
          | true => rfl
          | false =>
            have := cnt_lt (f := b32 y3) (g := fun _ => true) (k := i) Mn (fun _ _ _ => rfl) hi e rfl
            have := cnt_n (f := fun _ => true) Mn
            have := r2.2.1
            omega
        have pe : ∀ i, i < Mn → pl (km_ranking_245 c x Mn (nI 0) now) gx i = nI (P i) := fun i hi => by
          unfold pl
          rw [put, if_pos (by omega), show 72 + 6 * gx + i - (72 + 6 * gx) = i by omega]
          exact r4 i (all i hi)
        have g3 : R3g Mn K.1 (pl (km_ranking_245 c x Mn (nI 0) now) gx) := JR_end h2.2 r2 pe (fun i h1 h3 => by
          unfold pl
          rw [put, if_neg (by omega)]
          exact (hR gx hgx).2.2.2 i h1 h3)
        refine ⟨st_sn hM h2.2 r2 pe (by rw [ex, gd_set (by omega), if_pos rfl]; exact g3), fun g hg => ?_⟩
        show R3g Mn ((l11.set gx K.1).getD g 0) (pl (km_ranking_245 c x Mn (nI 0) now) g)
        by_cases eg : g = gx
        · subst eg
          rw [gd_set (by omega), if_pos rfl]
          exact g3
        · rw [gd_set (by omega), if_neg eg]
          refine R3g_c h2.2 (fun i hi => ?_) (hR g hg)
          unfold pl
          rw [put, if_neg (by omega)]
end RKA
section R3K
variable {as : List Int32} {hp hp1 hp2 : sm_H} {r1 r2 : Int32}
theorem R3_ranking (hl : as.length = 2) (hI : ivH IV hp) (hR1 : R1 hp) (hR2 : R2 hp) (hR : R3 hp) (m1 : EM 400 42 (.ref 0 :: as.map Value.int) hp (some (.int r1)) hp1) (hI1 : ivH IV hp1) (m2 : EM 400 172 (.ref 67 :: as.map Value.int) hp1 (some (.int r2)) hp2) : r1 = r2 ∧ R3 hp2 := by
  obtain ⟨x, y, rfl⟩ := ln2 hl
  obtain ⟨q1, h1⟩ := u_kc_ranking hI m1
  obtain ⟨q2, h2⟩ := u_km_ranking hI1 m2
  have w : exA hp1 68 = exA hp 68 := by rw [h1]; rfl
  have w3 : exF hp1 67 3 = exF hp 3 0 := by rw [hR1.1.1, h1]; rfl
  have w8 : exF hp1 67 8 = exF hp 67 8 := by rw [h1]; rfl
  have w71 : exA hp1 71 = exA hp 71 := by rw [h1]; rfl
  have w85 : exA hp1 85 = exA hp 85 := by rw [h1]; rfl
  rw [w, w3, w8, w71, w85] at q2 h2
  have mb := mN_b hI
  obtain ⟨m, em, hm, -⟩ := iv_many hI
  have eM : (exF hp 3 0).toInt = (mN hp : Int) := by
    unfold mN at mb ⊢
    rw [hR1.1.1]
    omega
  have g := rank_3 (f1 := exF hp 1 2) (f2 := exF hp 1 3) (f3 := exF hp 1 4) (f9 := exF hp1 67 9) (f10 := exF hp1 67 10) (f11 := exF hp1 67 11) (x := x) (y := y) eM mb hR1.1.2.1 hR2 (iv_len hI rfl (by decide)) (iv_len (k := 85) hI rfl (by decide)) (iv_len hI rfl (by decide)) (iv_lenL hI rfl) hR.1
  have mm : ∀ {h : sm_H}, exF h 67 3 = exF hp 67 3 → mN h = mN hp := fun e => by unfold mN; rw [e]
  generalize kc_ranking (exF hp 1 1) (exF hp 1 2) (exF hp 1 3) (exF hp 1 4) (exF hp 3 0) (exF hp 3 1) (exA hp 2) (exL hp 11) x y = K at g q1 h1
  generalize km_ranking (exF hp 3 0) (exF hp 67 8) (exF hp1 67 9) (exF hp1 67 10) (exF hp1 67 11) (exA hp 68) (exA hp 71) (exA hp 85) x y = T at g q2 h2
  refine ⟨by rw [q1, q2]; exact g.1, ?_⟩
  subst h2
  subst h1
  exact ⟨g.2, hR.2⟩
end R3K
