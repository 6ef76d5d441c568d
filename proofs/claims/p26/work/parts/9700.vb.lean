/-! votes: what both sides see -/
/-- what both sides see of told guests, their biscuits and rankings -/
noncomputable def VC (Mn : Nat) (M t : Int32) (bi : List Int32) (l11 : List Int64) (now : List Int32) : Prop := M.toInt = (Mn : Int) ∧ (2 ≤ Mn ∧ Mn ≤ 6) ∧ t = now.getD 144 0 ∧ (∀ g, g < 12 → bi.getD g 0 = now.getD (12 + g) 0) ∧ (∀ g, g < 12 → 0 ≤ (bi.getD g 0).toInt ∧ (bi.getD g 0).toInt ≤ 20) ∧ R3v Mn l11 now
/-- the same without the words of the rankings -/
noncomputable def VR (Mn : Nat) (M t : Int32) (bi now : List Int32) : Prop := M.toInt = (Mn : Int) ∧ (2 ≤ Mn ∧ Mn ≤ 6) ∧ t = now.getD 144 0 ∧ (∀ g, g < 12 → bi.getD g 0 = now.getD (12 + g) 0) ∧ (∀ g, g < 12 → 0 ≤ (bi.getD g 0).toInt ∧ (bi.getD g 0).toInt ≤ 20) ∧ True
theorem sg_bd {f : Nat → Int32} : ∀ (n : Nat), n ≤ 12 → (∀ i, i < n → 0 ≤ (f i).toInt ∧ (f i).toInt ≤ 20) → 0 ≤ (sg n f).toInt ∧ (sg n f).toInt ≤ 20 * (n : Int)
  | 0, _, _ => ⟨by show 0 ≤ (0 : Int32).toInt; decide, by show (0 : Int32).toInt ≤ _; decide⟩
  | n + 1, hn, h => by
    have q := sg_bd n (by omega) (fun i hi => h i (by omega))
    have w := h n (by omega)
    have e : (sg n f + f n).toInt = (sg n f).toInt + (f n).toInt := an_add32 (by omega) (by omega)
    show 0 ≤ (sg n f + f n).toInt ∧ (sg n f + f n).toInt ≤ 20 * ((n + 1 : Nat) : Int)
    rw [e]
    omega
section VB
variable {Mn : Nat} {M t : Int32} {bi : List Int32} {l11 : List Int64} {now : List Int32}
theorem vc_tn (h : VC Mn M t bi l11 now) : M.toInt.toNat = Mn := by
  have := h.1
  omega
theorem vc_told (h : VC Mn M t bi l11 now) {g : Nat} (hg : g < 12) : (kt_isTold t (nI g) = 0 ∧ km_isGuest now (nI g) = 0 ∧ b32 t g = false) ∨ (kt_isTold t (nI g) = 1 ∧ km_isGuest now (nI g) = 1 ∧ b32 t g = true) := told2 h.2.2.1 hg
theorem vr_of (h : VC Mn M t bi l11 now) : VR Mn M t bi now := ⟨h.1, h.2.1, h.2.2.1, h.2.2.2.1, h.2.2.2.2.1, trivial⟩
theorem vr_tn (h : VR Mn M t bi now) : M.toInt.toNat = Mn := by
  have := h.1
  omega
theorem vr_told (h : VR Mn M t bi now) {g : Nat} (hg : g < 12) : (kt_isTold t (nI g) = 0 ∧ km_isGuest now (nI g) = 0 ∧ b32 t g = false) ∨ (kt_isTold t (nI g) = 1 ∧ km_isGuest now (nI g) = 1 ∧ b32 t g = true) := told2 h.2.2.1 hg
theorem vc_pl {g i : Nat} (hg : g < 12) (hi : i < 6) : km_placeOf now (nI g) (nI i) = pl now g i := by
  have eg := nI_toInt (n := g) (by omega)
  have ei := nI_toInt (n := i) (by omega)
  have q := pl_idx (x := nI g) (i := nI i) ⟨by omega, by omega⟩ ⟨by omega, by omega⟩
  unfold km_placeOf pl
  rw [show ((72 + (6 * nI g)) + nI i).toInt.toNat = 72 + 6 * g + i by omega]
theorem vc_ah (h : VC Mn M t bi l11 now) {g i j : Nat} (hg : g < 12) (hi : i < Mn) (hj : j < Mn) : b32 (kt_aheadOf l11 (nI g) (nI j)) i = decide ((pl now g i).toInt < (pl now g j).toInt) := by
  have hM := h.2.1
  rw [ahead_b (nI_toInt (n := j) (by omega)) (by omega), decide_eq_true (show i < 6 by omega), Bool.true_and, nJ_ix (n := g) (by omega), (h.2.2.2.2.2 g hg).1 j (by omega) i (by omega)]
  exact decide_eq_decide.mpr ⟨fun z => z.2.2, fun z => ⟨hj, hi, z⟩⟩
/-- biscuits of those who rank i ahead of j -/
noncomputable def pF (t : Int32) (bi now : List Int32) (i j g : Nat) : Int32 := if b32 t g = true ∧ (pl now g i).toInt < (pl now g j).toInt then bi.getD g 0 else 0
noncomputable def pS (t : Int32) (bi now : List Int32) (i j : Nat) : Int32 := sg 12 (pF t bi now i j)
theorem pair_c (h : VC Mn M t bi l11 now) {i j : Nat} (hi : i < Mn) (hj : j < Mn) : kv_biscuitsFor t bi l11 (nI i) (nI j) = pS t bi now i j := by
  have hM := h.2.1
  unfold kv_biscuitsFor pS
  refine lp_sum (lp := kv_biscuitsFor_5 t bi l11 (nI i) (nI j)) (f := pF t bi now i j) (n := 12) (by omega) (fun _ _ => rfl) (fun m s g hg => ?_) 12 0 0 rfl rfl
  have hah := vc_ah h hg hi hj
  rw [e_kv_biscuitsFor_5, nJ_ix (n := g) (by omega)]
  unfold pF
  rcases vc_told h hg with ⟨a, -, b⟩ | ⟨a, -, b⟩
  · rw [if_pos a, if_neg (fun z => by rw [b] at z; cases z.1), Int32.add_zero]
  · rw [if_neg (by rw [a]; decide)]
    by_cases c : (pl now g i).toInt < (pl now g j).toInt
    · rw [if_neg (vt1 (by omega) (hah.trans (decide_eq_true c))), if_pos ⟨b, c⟩]
    · rw [if_pos (vt0 (by omega) (hah.trans (decide_eq_false c))), if_neg (fun z => c z.2), Int32.add_zero]
theorem pair_m (h : VC Mn M t bi l11 now) {i j : Nat} (hi : i < Mn) (hj : j < Mn) : km_pairOf now (nI i) (nI j) = pS t bi now i j := by
  have hM := h.2.1
  unfold km_pairOf pS
  refine lp_sum (lp := km_pairOf_5 now (nI i) (nI j)) (f := pF t bi now i j) (n := 12) (by omega) (fun _ _ => rfl) (fun m s g hg => ?_) 12 0 0 rfl rfl
  rw [e_km_pairOf_5, nJ_ad (a := 12) (k := 12) (n := g) rfl (by omega), vc_pl hg (show i < 6 by omega), vc_pl hg (show j < 6 by omega), ← h.2.2.2.1 g hg]
  unfold pF
  rcases vc_told h hg with ⟨-, a, b⟩ | ⟨-, a, b⟩
  · rw [if_pos a, if_neg (fun z => by rw [b] at z; cases z.1), Int32.add_zero]
  · rw [if_neg (by rw [a]; decide)]
    by_cases c : (pl now g i).toInt < (pl now g j).toInt
    · rw [if_pos c, if_pos ⟨b, c⟩]
    · rw [if_neg c, if_neg (fun z => c z.2), Int32.add_zero]
theorem pS_bd (h : VC Mn M t bi l11 now) {i j : Nat} : 0 ≤ (pS t bi now i j).toInt ∧ (pS t bi now i j).toInt ≤ 240 := by
  have q := sg_bd (f := pF t bi now i j) 12 (by omega) (fun g hg => by
    unfold pF
    split
    · exact h.2.2.2.2.1 g hg
    · exact ⟨by decide, by decide⟩)
  exact q
theorem vc_isM (h : VC Mn M t bi l11 now) (x : Int32) : (kt_isMeasure M x = 0 ∧ km_isMeasure M x = 0) ∨ (¬ kt_isMeasure M x = 0 ∧ ¬ km_isMeasure M x = 0 ∧ ∃ i : Nat, x = nI i ∧ i < Mn) := by
  obtain ⟨e1, e2⟩ := isM_eq (x := x) h.1 h.2.1
  by_cases c : kt_isMeasure M x = 0
  · exact Or.inl ⟨c, e1.trans c⟩
  · obtain ⟨i, i1, i2⟩ := e2 c
    exact Or.inr ⟨c, fun z => c (e1.symm.trans z), i, nJ_of i1, i2⟩
theorem pair_pure (h : VC Mn M t bi l11 now) {x y : Int32} : kc_pair M t bi l11 x y = km_pair M now x y := by
  unfold kc_pair km_pair
  rcases vc_isM h x with ⟨a, b⟩ | ⟨a, b, i, rfl, hi⟩
  · rw [if_pos a, if_pos b]
  · rw [if_neg a, if_neg b]
    rcases vc_isM h y with ⟨a, b⟩ | ⟨a, b, j, rfl, hj⟩
    · rw [if_pos a, if_pos b]
    · rw [if_neg a, if_neg b, pair_c h hi hj, pair_m h hi hj]
end VB
theorem vc_of {hp : sm_H} (hI : ivH IV hp) (hR1 : R1 hp) (hR : R3 hp) : VC (mN hp) (exF hp 3 0) (exF hp 3 1) (exA hp 6) (exL hp 11) (exA hp 68) := by
  have mb := mN_b hI
  obtain ⟨m, em, hm, -⟩ := iv_many hI
  refine ⟨?_, mb, hR1.1.2.1, hR1.1.2.2.2.1, fun g hg => bd_at (lo := 0) (hi := 0) hI rfl hg, hR.1⟩
  unfold mN at mb ⊢
  rw [hR1.1.1]
  omega
section ANV
variable {as : List Int32} {hp hp1 hp2 : sm_H} {r1 r2 : Int32}
theorem an_pair (hl : as.length = 2) (hI : ivH IV hp) (hR : R123 hp) (m1 : EM 400 74 (.ref 0 :: as.map Value.int) hp (some (.int r1)) hp1) (hI1 : ivH IV hp1) (m2 : EM 400 202 (.ref 67 :: as.map Value.int) hp1 (some (.int r2)) hp2) : r1 = r2 := by
  obtain ⟨x, y, rfl⟩ := ln2 hl
  obtain ⟨e1, h1⟩ := u_kc_pair hI m1
  obtain ⟨e2, -⟩ := u_km_pair hI1 m2
  have w : exA hp1 68 = exA hp 68 := by rw [h1]; rfl
  have w3 : exF hp1 67 3 = exF hp 3 0 := by rw [hR.1.1.1.1, h1]; rfl
  rw [e1, e2, w, w3]
  exact pair_pure (vc_of hI hR.1.1 hR.2)
end ANV
