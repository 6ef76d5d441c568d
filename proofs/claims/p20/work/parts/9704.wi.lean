/-! votes: widest paths -/
section WI
variable {Mn : Nat} {M t : Int32} {bi : List Int32} {l11 : List Int64} {now : List Int32}
/-- two tables of widths alike -/
noncomputable def WA (Mn : Nat) (a b : List Int32) : Prop := a.length = 36 ∧ b.length = 36 ∧ ∀ i, i < Mn → ∀ j, j < Mn → a.getD (6 * i + j) 0 = b.getD (6 * i + j) 0
theorem WA_set {a b : List Int32} (h : WA Mn a b) (h6 : Mn ≤ 6) {i j : Nat} (hi : i < Mn) (hj : j < Mn) {v w : Int32} (e : v = w) : WA Mn (a.set (6 * i + j) v) (b.set (6 * i + j) w) := by
  subst e
  obtain ⟨h1, h2, h3⟩ := h
  refine ⟨by rw [List.length_set]; exact h1, by rw [List.length_set]; exact h2, fun i' hi' j' hj' => ?_⟩
  rw [gd_set (by omega), gd_set (by omega), h3 i' hi' j' hj']
theorem mm_eq (x y : Int32) : kjm_max x y = km_max x y ∧ kjm_min x y = km_min x y := by
  unfold kjm_max km_max kjm_min km_min
  constructor
  · by_cases a : x.toInt < y.toInt
    · rw [if_pos a, if_neg (by omega)]
    · rw [if_neg a]
      by_cases b : y.toInt < x.toInt
      · rw [if_pos b]
      · rw [if_neg b]
        exact Int32.toInt_inj.mp (by omega)
  · by_cases a : x.toInt < y.toInt
    · rw [if_pos a, if_neg (by omega)]
    · rw [if_neg a]
      by_cases b : y.toInt < x.toInt
      · rw [if_pos b]
      · rw [if_neg b]
        exact Int32.toInt_inj.mp (by omega)
theorem wi_in (h : VC Mn M t bi l11 now) {p W2 : List Int32} (p1 : ∀ i, i < Mn → ∀ j, j < Mn → p.getD (6 * i + j) 0 = pS t bi now i j) (p3 : ∀ i, i < Mn → ∀ k, k < 32 → b32 (W2.getD i 0) k = decide (k < Mn ∧ (pS t bi now k i).toInt < (pS t bi now i k).toInt)) {i : Nat} (hi : i < Mn) : ∀ (m j : Nat) (a b : List Int32), j + m = Mn → a.length = 36 → b.length = 36 → (∀ i', i' < Mn → ∀ j', j' < Mn → (i' < i ∨ i' = i ∧ j' < j) → a.getD (6 * i' + j') 0 = b.getD (6 * i' + j') 0) → (kv_widenPaths_17 p W2 (nI i) m (nI j) a).length = 36 ∧ (km_laysWide_12 now (nI i) m (nI j) b).length = 36 ∧ (∀ i', i' < Mn → ∀ j', j' < Mn → i' < i + 1 → (kv_widenPaths_17 p W2 (nI i) m (nI j) a).getD (6 * i' + j') 0 = (km_laysWide_12 now (nI i) m (nI j) b).getD (6 * i' + j') 0) := by
  have hM := h.2.1
  intro m
  induction m with
  | zero =>
    intro j a b hj ha hb he
    rw [e0_kv_widenPaths_17, e0_km_laysWide_12]
    exact ⟨ha, hb, fun i' h1 j' h2 h3 => he i' h1 j' h2 (by omega)⟩
  | succ m ih =>
    intro j a b hj ha hb he
    have jM : j < Mn := by omega
    have st : ∀ v : Int32, ∀ i', i' < Mn → ∀ j', j' < Mn → (i' < i ∨ i' = i ∧ j' < j + 1) → (a.set (6 * i + j) v).getD (6 * i' + j') 0 = (b.set (6 * i + j) v).getD (6 * i' + j') 0 := fun v i' h1 j' h2 h3 => by
      rw [gd_set (by omega), gd_set (by omega)]
      by_cases e : 6 * i' + j' = 6 * i + j
      · rw [if_pos e, if_pos e]
      · rw [if_neg e, if_neg e]
        exact he i' h1 j' h2 (by omega)
    have go : ∀ v : Int32, _ := fun v => ih (j + 1) (a.set (6 * i + j) v) (b.set (6 * i + j) v) (by omega) (by rw [List.length_set]; exact ha) (by rw [List.length_set]; exact hb) (st v)
    have hb3 := p3 i hi j (by omega)
    rw [e_kv_widenPaths_17, e_km_laysWide_12, (ix6 i (by omega) j (by omega)).1, (ix6 i (by omega) j (by omega)).2, nJ_1 (n := j) (by omega), nJ_ix (n := i) (by omega), beats_m h hi jM, pair_m h hi jM, p1 i hi j jM]
    by_cases e : i = j
    · subst e
      rw [if_pos rfl, if_pos (vt0 (by omega) (hb3.trans (decide_eq_false (fun z => by omega))))]
      exact go 0
    · rw [if_neg (show ¬ nI i = nI j from fun z => e (nJ_inj (by omega) (by omega) z))]
      by_cases c : (pS t bi now j i).toInt < (pS t bi now i j).toInt
      · rw [if_neg (vt1 (by omega) (hb3.trans (decide_eq_true ⟨jM, c⟩))), if_pos c, if_neg (show ¬ (1 : Int32) = 0 by decide)]
        exact go _
      · rw [if_pos (vt0 (by omega) (hb3.trans (decide_eq_false (fun z => c z.2)))), if_neg c, if_pos (show (0 : Int32) = 0 from rfl)]
        exact go 0
theorem wi_out (h : VC Mn M t bi l11 now) {p W2 : List Int32} (p1 : ∀ i, i < Mn → ∀ j, j < Mn → p.getD (6 * i + j) 0 = pS t bi now i j) (p3 : ∀ i, i < Mn → ∀ k, k < 32 → b32 (W2.getD i 0) k = decide (k < Mn ∧ (pS t bi now k i).toInt < (pS t bi now i k).toInt)) : ∀ (m i : Nat) (a b : List Int32), i + m = Mn → a.length = 36 → b.length = 36 → (∀ i', i' < Mn → ∀ j', j' < Mn → i' < i → a.getD (6 * i' + j') 0 = b.getD (6 * i' + j') 0) → WA Mn (kv_widenPaths_10 p W2 M m (nI i) a) (km_laysWide_2 M now m (nI i) b) := by
  have hM := h.2.1
  intro m
  induction m with
  | zero =>
    intro i a b hi ha hb he
    rw [e0_kv_widenPaths_10, e0_km_laysWide_2]
    exact ⟨ha, hb, fun i' h1 j' h2 => he i' h1 j' h2 (by omega)⟩
  | succ m ih =>
    intro i a b hi ha hb he
    rw [e_kv_widenPaths_10, e_km_laysWide_2, nJ_1 (n := i) (by omega), vc_tn h]
    obtain ⟨q1, q2, q3⟩ := wi_in h p1 p3 (show i < Mn by omega) Mn 0 a b (by omega) ha hb (fun i' h1 j' h2 h3 => he i' h1 j' h2 (by omega))
    exact ih (i + 1) _ _ (by omega) q1 q2 (fun i' h1 j' h2 h3 => q3 i' h1 j' h2 h3)
theorem wi_90 (h6 : Mn ≤ 6) {by' i : Nat} (hy : by' < Mn) (hi : i < Mn) : ∀ (m j : Nat) (a b : List Int32), j + m = Mn → WA Mn a b → WA Mn (kv_widenPaths_90 (nI by') (nI i) m (nI j) a) (km_laysWide_89 (nI by') (nI i) m (nI j) b) := by
  intro m
  induction m with
  | zero => intro j a b _ hw; exact hw
  | succ m ih =>
    intro j a b hj hw
    have jM : j < Mn := by omega
    rw [e_kv_widenPaths_90, e_km_laysWide_89, nJ_1 (n := j) (by omega)]
    unfold kv_widen
    rw [(ix6 i (by omega) j (by omega)).1, (ix6 i (by omega) j (by omega)).2, (ix6 i (by omega) by' (by omega)).1, (ix6 i (by omega) by' (by omega)).2, (ix6 by' (by omega) j (by omega)).1, (ix6 by' (by omega) j (by omega)).2]
    refine ih (j + 1) _ _ (by omega) (WA_set hw h6 hi jM ?_)
    rw [(mm_eq _ _).1, (mm_eq _ _).2, hw.2.2 i hi j jM, hw.2.2 i hi by' hy, hw.2.2 by' hy j jM]
theorem wi_82 (h : VC Mn M t bi l11 now) {by' : Nat} (hy : by' < Mn) : ∀ (m i : Nat) (a b : List Int32), i + m = Mn → WA Mn a b → WA Mn (kv_widenPaths_82 M (nI by') m (nI i) a) (km_laysWide_79 M (nI by') m (nI i) b) := by
  have hM := h.2.1
  intro m
  induction m with
  | zero => intro i a b _ hw; exact hw
  | succ m ih =>
    intro i a b hi hw
    rw [e_kv_widenPaths_82, e_km_laysWide_79, nJ_1 (n := i) (by omega), vc_tn h]
    exact ih (i + 1) _ _ (by omega) (wi_90 hM.2 hy (by omega) Mn 0 a b (by omega) hw)
theorem wi_75 (h : VC Mn M t bi l11 now) : ∀ (m y : Nat) (a b : List Int32), y + m = Mn → WA Mn a b → WA Mn (kv_widenPaths_75 M m (nI y) a) (km_laysWide_69 M m (nI y) b) := by
  have hM := h.2.1
  intro m
  induction m with
  | zero => intro y a b _ hw; exact hw
  | succ m ih =>
    intro y a b hy hw
    rw [e_kv_widenPaths_75, e_km_laysWide_69, nJ_1 (n := y) (by omega), vc_tn h]
    exact ih (y + 1) _ _ (by omega) (wi_82 h (by omega) Mn 0 a b (by omega) hw)
theorem wide_c (h : VC Mn M t bi l11 now) {a32 a33 a34 a90 : List Int32} (h32 : a32.length = 36) (h33 : a33.length = 6) (h34 : a34.length = 36) (h90 : a90.length = 36) : WA Mn (kv_widenPaths M (kv_weighPairs M t bi a32 a33 l11).1 (kv_weighPairs M t bi a32 a33 l11).2 a34) (km_laysWide M now a90) := by
  have hM := h.2.1
  obtain ⟨p1, p2, p3⟩ := weigh_c h h32 h33
  unfold kv_widenPaths km_laysWide
  rw [vc_tn h]
  exact wi_75 h Mn 0 _ _ (by omega) (wi_out h p1 p3 Mn 0 a34 a90 (by omega) h34 h90 (fun i' _ j' _ h3 => by omega))
theorem widest_pure (h : VC Mn M t bi l11 now) {a32 a33 a34 a90 : List Int32} (h32 : a32.length = 36) (h33 : a33.length = 6) (h34 : a34.length = 36) (h90 : a90.length = 36) {x y : Int32} : (kc_widest M t bi a32 a33 a34 l11 x y).1 = (km_widest M now a90 x y).1 := by
  have hM := h.2.1
  have w := wide_c h h32 h33 h34 h90
  unfold kc_widest km_widest
  rcases vc_isM h x with ⟨a, b⟩ | ⟨a, b, i, rfl, hi⟩
  · rw [if_pos a, if_pos b]
  · rw [if_neg a, if_neg b]
    rcases vc_isM h y with ⟨a, b⟩ | ⟨a, b, j, rfl, hj⟩
    · rw [if_pos a, if_pos b]
    · rw [if_neg a, if_neg b]
      by_cases e : nI i = nI j
      · rw [if_pos e, if_pos e]
      · rw [if_neg e, if_neg e, (ix6 i (by omega) j (by omega)).1, (ix6 i (by omega) j (by omega)).2]
        exact w.2.2 i hi j hj
theorem path_pure (h : VC Mn M t bi l11 now) {a32 a33 a34 a90 : List Int32} (h32 : a32.length = 36) (h33 : a33.length = 6) (h34 : a34.length = 36) (h90 : a90.length = 36) : (kc_pathWinners M t bi a32 a33 a34 l11).1 = (km_pathWinners M now a90).1 := by
  have hM := h.2.1
  have w := wide_c h h32 h33 h34 h90
  unfold kc_pathWinners km_pathWinners
  rw [vc_tn h]
  generalize kv_widenPaths M (kv_weighPairs M t bi a32 a33 l11).1 (kv_weighPairs M t bi a32 a33 l11).2 a34 = A at w
  generalize km_laysWide M now a90 = B at w
  show kc_pathWinners_18 M A Mn 0 0 = km_pathWinners_8 M B Mn 0 0
  have out : ∀ i, i < Mn → ∀ (m j : Nat), j + m = Mn → km_pathWinners_21 B (nI i) m 0 (nI j) = 0 := by
    intro i hi m
    induction m with
    | zero => intro j _; rfl
    | succ m ih =>
      intro j hj
      rw [e_km_pathWinners_21, if_pos rfl, nJ_1 (n := j) (by omega)]
      exact ih (j + 1) (by omega)
  have inn : ∀ i, i < Mn → ∀ (m j : Nat), j + m = Mn → kv_winsPaths_2 A (nI i) m (nI j) = km_pathWinners_21 B (nI i) m 1 (nI j) := by
    intro i hi m
    induction m with
    | zero => intro j _; rfl
    | succ m ih =>
      intro j hj
      have jM : j < Mn := by omega
      rw [e_kv_winsPaths_2, e_km_pathWinners_21, if_neg (show ¬ (1 : Int32) = 0 by decide), (ix6 i (by omega) j (by omega)).1, (ix6 i (by omega) j (by omega)).2, (ix6 j (by omega) i (by omega)).1, (ix6 j (by omega) i (by omega)).2, nJ_1 (n := j) (by omega), w.2.2 i hi j jM, w.2.2 j jM i hi]
      by_cases e : nI i = nI j
      · have e2 := nJ_inj (by omega) (by omega) e
        subst e2
        rw [if_pos rfl, if_neg (by omega)]
        exact ih (i + 1) (by omega)
      · rw [if_neg e]
        by_cases c : (B.getD (6 * i + j) 0).toInt < (B.getD (6 * j + i) 0).toInt
        · rw [if_pos c, if_pos c]
          exact (out i hi m (j + 1) (by omega)).symm
        · rw [if_neg c, if_neg c]
          exact ih (j + 1) (by omega)
  have loop : ∀ (m i : Nat) (s : Int32), i + m = Mn → kc_pathWinners_18 M A m s (nI i) = km_pathWinners_8 M B m s (nI i) := by
    intro m
    induction m with
    | zero => intro i s _; rfl
    | succ m ih =>
      intro i s hi
      have e : kv_winsPaths M A (nI i) = km_pathWinners_21 B (nI i) Mn 1 0 := by
        unfold kv_winsPaths
        rw [vc_tn h]
        exact inn i (by omega) Mn 0 (by omega)
      have o : s ||| 0 = s := b32_ext fun k _ => by rw [b32_or, b32_0, Bool.or_false]
      rw [e_kc_pathWinners_18, e_km_pathWinners_8, nJ_1 (n := i) (by omega), vc_tn h, e, o]
      by_cases c : km_pathWinners_21 B (nI i) Mn 1 0 = 0
      · rw [if_pos c, if_pos c]
        exact ih (i + 1) s (by omega)
      · rw [if_neg c, if_neg c]
        exact ih (i + 1) _ (by omega)
  exact loop Mn 0 0 (by omega)
end WI
section ANWI
variable {as : List Int32} {hp hp1 hp2 : sm_H} {r1 r2 : Int32}
theorem an_widest (hl : as.length = 2) (hI : ivH IV hp) (hR : R123 hp) (m1 : EM 400 90 (.ref 0 :: as.map Value.int) hp (some (.int r1)) hp1) (hI1 : ivH IV hp1) (m2 : EM 400 217 (.ref 67 :: as.map Value.int) hp1 (some (.int r2)) hp2) : r1 = r2 := by
  obtain ⟨x, y, rfl⟩ := ln2 hl
  obtain ⟨e1, h1⟩ := u_kc_widest hI m1
  obtain ⟨e2, -⟩ := u_km_widest hI1 m2
  have w : exA hp1 68 = exA hp 68 := by rw [h1]; rfl
  have w3 : exF hp1 67 3 = exF hp 3 0 := by rw [hR.1.1.1.1, h1]; rfl
  rw [e1, e2, w, w3]
  exact widest_pure (vc_of hI hR.1.1 hR.2) (iv_len (k := 32) hI rfl (by decide)) (iv_len (k := 33) hI rfl (by decide)) (iv_len (k := 34) hI rfl (by decide)) (iv_len (k := 90) hI1 rfl (by decide))
theorem an_path (hl : as.length = 0) (hI : ivH IV hp) (hR : R123 hp) (m1 : EM 400 93 (.ref 0 :: as.map Value.int) hp (some (.int r1)) hp1) (hI1 : ivH IV hp1) (m2 : EM 400 220 (.ref 67 :: as.map Value.int) hp1 (some (.int r2)) hp2) : r1 = r2 := by
  obtain rfl := ln0 hl
  obtain ⟨e1, h1⟩ := u_kc_pathWinners hI m1
  obtain ⟨e2, -⟩ := u_km_pathWinners hI1 m2
  have w : exA hp1 68 = exA hp 68 := by rw [h1]; rfl
  have w3 : exF hp1 67 3 = exF hp 3 0 := by rw [hR.1.1.1.1, h1]; rfl
  rw [e1, e2, w, w3]
  exact path_pure (vc_of hI hR.1.1 hR.2) (iv_len (k := 32) hI rfl (by decide)) (iv_len (k := 33) hI rfl (by decide)) (iv_len (k := 34) hI rfl (by decide)) (iv_len (k := 90) hI1 rfl (by decide))
end ANWI
