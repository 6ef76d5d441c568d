/-! votes: the first ones -/
noncomputable def FV (n : Nat) (am : Int32) (p : Nat → Int32) (v : Int32) : Prop := (v = -1 ∧ ∀ i, i < n → b32 am i = false) ∨ ∃ c, c < n ∧ v = nI c ∧ b32 am c = true ∧ (∀ j, j < n → b32 am j = true → (p c).toInt ≤ (p j).toInt) ∧ ∀ j, j < c → b32 am j = true → (p c).toInt < (p j).toInt
/-- biscuits of those whose highest one is i -/
noncomputable def vG (t : Int32) (bi : List Int32) (H : Nat → Int32) (no : Nat → Bool) (i g : Nat) : Int32 := if b32 t g = true ∧ no g = false ∧ H g = nI i then bi.getD g 0 else 0
noncomputable def vF (t : Int32) (bi : List Int32) (H : Nat → Int32) (no : Nat → Bool) (i : Nat) : Int32 := sg 12 (vG t bi H no i)
section FI
variable {Mn : Nat} {M t : Int32} {bi : List Int32} {l11 : List Int64} {now : List Int32}
theorem hi_Fr (h : VR Mn M t bi now) {g : Nat} (hg : g < 12) {am : Int32} : FV Mn am (pl now g) (km_highestOf M now (nI g) am) := by
  have hM := h.2.1
  have loop : ∀ (m i : Nat) (v : Int32), i + m = Mn → FV i am (pl now g) v → FV Mn am (pl now g) (km_highestOf_5 now (nI g) am m v (nI i)) := by
    intro m
    induction m with
    | zero =>
      intro i v hi hv
      rw [e0_km_highestOf_5]
      rw [show i = Mn by omega] at hv
      exact hv
    | succ m ih =>
      intro i v hi hv
      rw [e_km_highestOf_5, nJ_1 (n := i) (by omega)]
      by_cases hb : b32 am i = true
      · rw [if_neg (vh1 (by omega) hb)]
        rcases hv with ⟨rfl, hv⟩ | ⟨c, c1, rfl, c2, c3, c4⟩
        · rw [if_pos rfl]
          refine ih (i + 1) _ (by omega) (Or.inr ⟨i, by omega, rfl, hb, fun j hj hbj => ?_, fun j hj hbj => ?_⟩)
          · by_cases e : j = i
            · rw [e]; exact Int.le_refl _
            · rw [hv j (by omega)] at hbj; cases hbj
          · rw [hv j (by omega)] at hbj; cases hbj
        · rw [if_neg (nI_m1 (by omega)), vc_pl hg (show i < 6 by omega), vc_pl hg (show c < 6 by omega)]
          by_cases hl : (pl now g i).toInt < (pl now g c).toInt
          · rw [if_pos hl]
            refine ih (i + 1) _ (by omega) (Or.inr ⟨i, by omega, rfl, hb, fun j hj hbj => ?_, fun j hj hbj => ?_⟩)
            · by_cases e : j = i
              · rw [e]; exact Int.le_refl _
              · have := c3 j (by omega) hbj
                omega
            · have := c3 j (by omega) hbj
              omega
          · rw [if_neg hl]
            refine ih (i + 1) _ (by omega) (Or.inr ⟨c, by omega, rfl, c2, fun j hj hbj => ?_, c4⟩)
            by_cases e : j = i
            · rw [e]; omega
            · exact c3 j (by omega) hbj
      · have hb := eq_false_of_ne_true hb
        rw [if_pos (vh0 (by omega) hb)]
        refine ih (i + 1) _ (by omega) ?_
        rcases hv with ⟨rfl, hv⟩ | ⟨c, c1, rfl, c2, c3, c4⟩
        · refine Or.inl ⟨rfl, fun j hj => ?_⟩
          by_cases e : j = i
          · rw [e]; exact hb
          · exact hv j (by omega)
        · refine Or.inr ⟨c, by omega, rfl, c2, fun j hj hbj => ?_, c4⟩
          by_cases e : j = i
          · rw [e, hb] at hbj; cases hbj
          · exact c3 j (by omega) hbj
  unfold km_highestOf
  rw [vr_tn h]
  exact loop Mn 0 (-1) (by omega) (Or.inl ⟨rfl, fun i hi => by omega⟩)
theorem hi_FV (h : VC Mn M t bi l11 now) {g : Nat} (hg : g < 12) {am : Int32} : FV Mn am (pl now g) (km_highestOf M now (nI g) am) := hi_Fr (vr_of h) hg
theorem fav_eq (h : VC Mn M t bi l11 now) {g : Nat} (hg : g < 12) {am : Int32} : kt_favourite M l11 (nI g) am = km_highestOf M now (nI g) am := by
  have hM := h.2.1
  have hv := hi_FV h hg (am := am)
  generalize km_highestOf M now (nI g) am = v at hv ⊢
  unfold kt_favourite
  rw [vc_tn h]
  have cnd : ∀ i, i < Mn → (((kt_aheadOf l11 (nI g) (nI i)) &&& am) = 0 ↔ ∀ j, j < Mn → b32 am j = true → (pl now g i).toInt ≤ (pl now g j).toInt) := fun i hi => by
    constructor
    · intro e j hj hb
      have q := b32_and (kt_aheadOf l11 (nI g) (nI i)) am j
      rw [e, b32_0, hb, vc_ah h hg hj hi, Bool.and_true] at q
      have q2 := of_decide_eq_false q.symm
      omega
    · intro e
      refine b32_ext fun j _ => ?_
      rw [b32_and, b32_0, ahead_b (nI_toInt (n := i) (by omega)) (by omega)]
      by_cases hj : j < 6
      · rw [decide_eq_true hj, Bool.true_and, nJ_ix (n := g) (by omega), (h.2.2.2.2.2 g hg).1 i (by omega) j hj]
        by_cases hb : b32 am j = true
        · rw [hb, Bool.and_true]
          exact decide_eq_false (fun z => by
            have := e j z.2.1 hb
            omega)
        · rw [eq_false_of_ne_true hb, Bool.and_false]
      · rw [decide_eq_false hj]
        rfl
  have loop : ∀ (m i : Nat), i + m = Mn → (∀ c, c < Mn → v = nI c → i ≤ c) → kt_favourite_2 l11 (nI g) am m (nI i) = v := by
    intro m
    induction m with
    | zero =>
      intro i hi hc
      rw [e0_kt_favourite_2]
      rcases hv with ⟨rfl, -⟩ | ⟨c, c1, e, -⟩
      · rfl
      · have := hc c c1 e
        omega
    | succ m ih =>
      intro i hi hc
      rw [e_kt_favourite_2, nJ_1 (n := i) (by omega)]
      rcases hv with ⟨hv0, hv⟩ | ⟨c, c1, e, c2, c3, c4⟩
      · rw [if_pos (vt0 (by omega) (hv i (by omega)))]
        exact ih (i + 1) (by omega) (fun c h1 h2 => absurd (h2.symm.trans hv0) (nI_m1 (by omega)))
      · have ic := hc c c1 e
        by_cases ec : i = c
        · subst ec
          rw [if_neg (vt1 (by omega) c2), if_pos ((cnd i c1).mpr c3)]
          exact e.symm
        · have nx : ∀ c', c' < Mn → v = nI c' → i + 1 ≤ c' := fun c' h1 h2 => by
            have := nJ_inj (m := c) (n := c') (by omega) (by omega) (e.symm.trans h2)
            omega
          by_cases hb : b32 am i = true
          · rw [if_neg (vt1 (by omega) hb), if_neg (fun z => by
              have := (cnd i (by omega)).mp z c c1 c2
              have := c4 i (by omega) hb
              omega)]
            exact ih (i + 1) (by omega) nx
          · rw [if_pos (vt0 (by omega) (eq_false_of_ne_true hb))]
            exact ih (i + 1) (by omega) nx
  exact loop Mn 0 (by omega) (fun _ _ _ => by omega)
theorem hi_ir (h : VR Mn M t bi now) {g : Nat} (hg : g < 12) {am : Int32} (hne : ∃ i, i < Mn ∧ b32 am i = true) : ∃ c, c < Mn ∧ km_highestOf M now (nI g) am = nI c ∧ b32 am c = true := by
  rcases hi_Fr h hg (am := am) with ⟨-, z⟩ | ⟨c, c1, e, c2, -⟩
  · obtain ⟨i, i1, i2⟩ := hne
    rw [z i i1] at i2
    cases i2
  · exact ⟨c, c1, e, c2⟩
theorem hi_in (h : VC Mn M t bi l11 now) {g : Nat} (hg : g < 12) {am : Int32} (hne : ∃ i, i < Mn ∧ b32 am i = true) : ∃ c, c < Mn ∧ km_highestOf M now (nI g) am = nI c ∧ b32 am c = true := hi_ir (vr_of h) hg hne
theorem tally_c (h : VC Mn M t bi l11 now) {a35 : List Int32} (h35 : a35.length = 384) {a : Nat} (ha : a < 64) {am : Int32} (hA : am = nI a) (hne : ∃ i, i < Mn ∧ b32 am i = true) {w : Int32} : (kv_tallyFirsts M t bi a35 l11 am w).length = 384 ∧ ∀ q, q < 384 → (kv_tallyFirsts M t bi a35 l11 am w).getD q 0 = if 6 * a ≤ q ∧ q < 6 * a + 6 then vF t bi (fun g => km_highestOf M now (nI g) am) (fun g => decide (nI g = w)) (q - 6 * a) else a35.getD q 0 := by
  have hM := h.2.1
  have hX : (am * 6).toInt = ((6 * a : Nat) : Int) := by
    rw [hA]
    exact (by decide +kernel : ∀ a, a < 64 → (nI a * 6).toInt = ((6 * a : Nat) : Int)) a ha
  have l8 : ∀ (m i : Nat) (l : List Int32), i + m = 6 → (l.length = 384 ∧ ∀ q, q < 384 → l.getD q 0 = if 6 * a ≤ q ∧ q < 6 * a + i then 0 else a35.getD q 0) → (kv_tallyFirsts_8 (am * 6) m (nI i) l).length = 384 ∧ ∀ q, q < 384 → (kv_tallyFirsts_8 (am * 6) m (nI i) l).getD q 0 = if 6 * a ≤ q ∧ q < 6 * a + 6 then 0 else a35.getD q 0 := by
    intro m
    induction m with
    | zero =>
      intro i l hi hl
      rw [e0_kv_tallyFirsts_8]
      rw [show i = 6 by omega] at hl
      exact hl
    | succ m ih =>
      intro i l hi hl
      rw [e_kv_tallyFirsts_8, nJ_ad (n := i) hX (by omega), nJ_1 (n := i) (by omega)]
      refine ih (i + 1) _ (by omega) ⟨by rw [List.length_set]; exact hl.1, fun q hq => ?_⟩
      rw [gd_set (by rw [hl.1]; omega), hl.2 q hq]
      by_cases e : q = 6 * a + i
      · rw [if_pos e, if_pos (by omega)]
      · rw [if_neg e]
        by_cases e2 : 6 * a ≤ q ∧ q < 6 * a + i
        · rw [if_pos e2, if_pos (by omega)]
        · rw [if_neg e2, if_neg (by omega)]
  have l34 : ∀ (m g : Nat) (l : List Int32), g + m = 12 → (l.length = 384 ∧ ∀ q, q < 384 → l.getD q 0 = if 6 * a ≤ q ∧ q < 6 * a + 6 then sg g (vG t bi (fun g => km_highestOf M now (nI g) am) (fun g => decide (nI g = w)) (q - 6 * a)) else a35.getD q 0) → (kv_tallyFirsts_34 M t bi l11 am w (am * 6) m (nI g) l).length = 384 ∧ ∀ q, q < 384 → (kv_tallyFirsts_34 M t bi l11 am w (am * 6) m (nI g) l).getD q 0 = if 6 * a ≤ q ∧ q < 6 * a + 6 then sg 12 (vG t bi (fun g => km_highestOf M now (nI g) am) (fun g => decide (nI g = w)) (q - 6 * a)) else a35.getD q 0 := by
    intro m
    induction m with
    | zero =>
      intro g l hg hl
      rw [e0_kv_tallyFirsts_34]
      rw [show g = 12 by omega] at hl
      exact hl
    | succ m ih =>
      intro g l hg hl
      rw [e_kv_tallyFirsts_34, nJ_1 (n := g) (by omega), fav_eq h (show g < 12 by omega)]
      have skip : (∀ i, vG t bi (fun g => km_highestOf M now (nI g) am) (fun g => decide (nI g = w)) i g = 0) → (l.length = 384 ∧ ∀ q, q < 384 → l.getD q 0 = if 6 * a ≤ q ∧ q < 6 * a + 6 then sg (g + 1) (vG t bi (fun g => km_highestOf M now (nI g) am) (fun g => decide (nI g = w)) (q - 6 * a)) else a35.getD q 0) := fun z => ⟨hl.1, fun q hq => by rw [sg_s (z _)]; exact hl.2 q hq⟩
      by_cases e1 : nI g = w
      · rw [if_pos e1]
        exact ih (g + 1) _ (by omega) (skip (fun i => if_neg (fun z => by
          have z2 : decide (nI g = w) = false := z.2.1
          rw [decide_eq_true e1] at z2
          cases z2)))
      · rw [if_neg e1]
        rcases vc_told h (show g < 12 by omega) with ⟨p, -, b⟩ | ⟨p, -, b⟩
        · rw [if_pos p]
          exact ih (g + 1) _ (by omega) (skip (fun i => if_neg (fun z => by rw [b] at z; cases z.1)))
        · obtain ⟨c, c1, c2, -⟩ := hi_in h (show g < 12 by omega) hne
          rw [if_neg (by rw [p]; decide), c2, if_neg (nI_m1 (by omega)), nJ_ad (n := c) hX (by omega), nJ_ix (n := g) (by omega)]
          refine ih (g + 1) _ (by omega) ⟨by rw [List.length_set]; exact hl.1, fun q hq => ?_⟩
          rw [gd_set (by rw [hl.1]; omega), hl.2 q hq, hl.2 (6 * a + c) (by omega), if_pos (show 6 * a ≤ 6 * a + c ∧ 6 * a + c < 6 * a + 6 by omega)]
          by_cases e : q = 6 * a + c
          · have ge : vG t bi (fun g => km_highestOf M now (nI g) am) (fun g => decide (nI g = w)) c g = bi.getD g 0 := if_pos ⟨b, decide_eq_false e1, c2⟩
            rw [if_pos e, if_pos (show 6 * a ≤ q ∧ q < 6 * a + 6 by omega), show q - 6 * a = c by omega, show 6 * a + c - 6 * a = c by omega, ← ge]
            rfl
          · rw [if_neg e]
            by_cases e2 : 6 * a ≤ q ∧ q < 6 * a + 6
            · rw [if_pos e2, if_pos e2]
              refine (sg_s (if_neg (fun z => ?_))).symm
              have z3 : km_highestOf M now (nI g) am = nI (q - 6 * a) := z.2.2
              rw [c2] at z3
              have := nJ_inj (by omega) (by omega) z3
              omega
            · rw [if_neg e2, if_neg e2]
  unfold kv_tallyFirsts
  obtain ⟨p1, p2⟩ := l8 6 0 a35 rfl ⟨h35, fun q hq => (if_neg (by omega)).symm⟩
  exact l34 12 0 _ rfl ⟨p1, p2⟩
theorem lays_r (h : VR Mn M t bi now) {a87 : List Int32} (h87 : a87.length = 6) {am : Int32} (hne : ∃ i, i < Mn ∧ b32 am i = true) {w : Int32} : (km_laysFirsts M now a87 am w).length = 6 ∧ ∀ q, q < 6 → (km_laysFirsts M now a87 am w).getD q 0 = vF t bi (fun g => km_highestOf M now (nI g) am) (fun g => b32 w g) q := by
  have hM := h.2.1
  have l2 : ∀ (m i : Nat) (l : List Int32), i + m = 6 → (l.length = 6 ∧ ∀ q, q < i → l.getD q 0 = 0) → (km_laysFirsts_2 m (nI i) l).length = 6 ∧ ∀ q, q < 6 → (km_laysFirsts_2 m (nI i) l).getD q 0 = 0 := by
    intro m
    induction m with
    | zero =>
      intro i l hi hl
      rw [e0_km_laysFirsts_2]
      rw [show i = 6 by omega] at hl
      exact hl
    | succ m ih =>
      intro i l hi hl
      rw [e_km_laysFirsts_2, nJ_ix (n := i) (by omega), nJ_1 (n := i) (by omega)]
      refine ih (i + 1) _ (by omega) ⟨by rw [List.length_set]; exact hl.1, fun q hq => ?_⟩
      rw [gd_set (by rw [hl.1]; omega)]
      by_cases e : q = i
      · rw [if_pos e]
      · rw [if_neg e]
        exact hl.2 q (by omega)
  have l23 : ∀ (m g : Nat) (l : List Int32), g + m = 12 → (l.length = 6 ∧ ∀ q, q < 6 → l.getD q 0 = sg g (vG t bi (fun g => km_highestOf M now (nI g) am) (fun g => b32 w g) q)) → (km_laysFirsts_23 M now am w m (nI g) l).length = 6 ∧ ∀ q, q < 6 → (km_laysFirsts_23 M now am w m (nI g) l).getD q 0 = sg 12 (vG t bi (fun g => km_highestOf M now (nI g) am) (fun g => b32 w g) q) := by
    intro m
    induction m with
    | zero =>
      intro g l hg hl
      rw [e0_km_laysFirsts_23]
      rw [show g = 12 by omega] at hl
      exact hl
    | succ m ih =>
      intro g l hg hl
      rw [e_km_laysFirsts_23, nJ_1 (n := g) (by omega)]
      have skip : (∀ i, vG t bi (fun g => km_highestOf M now (nI g) am) (fun g => b32 w g) i g = 0) → (l.length = 6 ∧ ∀ q, q < 6 → l.getD q 0 = sg (g + 1) (vG t bi (fun g => km_highestOf M now (nI g) am) (fun g => b32 w g) q)) := fun z => ⟨hl.1, fun q hq => by rw [sg_s (z _)]; exact hl.2 q hq⟩
      rcases vr_told h (show g < 12 by omega) with ⟨-, p, b⟩ | ⟨-, p, b⟩
      · rw [if_pos p]
        exact ih (g + 1) _ (by omega) (skip (fun i => if_neg (fun z => by rw [b] at z; cases z.1)))
      · rw [if_neg (by rw [p]; decide)]
        by_cases e1 : b32 w g = true
        · rw [if_neg (vh1 (by omega) e1)]
          exact ih (g + 1) _ (by omega) (skip (fun i => if_neg (fun z => by
            have z2 : b32 w g = false := z.2.1
            rw [e1] at z2
            cases z2)))
        · have e1 := eq_false_of_ne_true e1
          obtain ⟨c, c1, c2, -⟩ := hi_ir h (show g < 12 by omega) hne
          rw [if_pos (vh0 (by omega) e1), c2, nJ_ix (n := c) (by omega), nJ_ad (a := 12) (k := 12) (n := g) rfl (by omega), ← h.2.2.2.1 g (by omega)]
          refine ih (g + 1) _ (by omega) ⟨by rw [List.length_set]; exact hl.1, fun q hq => ?_⟩
          rw [gd_set (by rw [hl.1]; omega), hl.2 q hq, hl.2 c (by omega)]
          by_cases e : q = c
          · have ge : vG t bi (fun g => km_highestOf M now (nI g) am) (fun g => b32 w g) c g = bi.getD g 0 := if_pos ⟨b, e1, c2⟩
            rw [if_pos e, e, ← ge]
            rfl
          · rw [if_neg e]
            refine (sg_s (if_neg (fun z => ?_))).symm
            have z3 : km_highestOf M now (nI g) am = nI q := z.2.2
            rw [c2] at z3
            have := nJ_inj (by omega) (by omega) z3
            omega
  unfold km_laysFirsts
  obtain ⟨p1, p2⟩ := l2 6 0 a87 rfl ⟨h87, fun q hq => by omega⟩
  exact l23 12 0 _ rfl ⟨p1, p2⟩
theorem lays_m (h : VC Mn M t bi l11 now) {a87 : List Int32} (h87 : a87.length = 6) {am : Int32} (hne : ∃ i, i < Mn ∧ b32 am i = true) {w : Int32} : (km_laysFirsts M now a87 am w).length = 6 ∧ ∀ q, q < 6 → (km_laysFirsts M now a87 am w).getD q 0 = vF t bi (fun g => km_highestOf M now (nI g) am) (fun g => b32 w g) q := lays_r (vr_of h) h87 hne
theorem vF_br (h : VR Mn M t bi now) {H : Nat → Int32} {no : Nat → Bool} {i : Nat} : 0 ≤ (vF t bi H no i).toInt ∧ (vF t bi H no i).toInt ≤ 240 := by
  have q := sg_bd (f := vG t bi H no i) 12 (by omega) (fun g hg => by
    unfold vG
    split
    · exact h.2.2.2.2.1 g hg
    · exact ⟨by decide, by decide⟩)
  exact q
theorem vF_bd (h : VC Mn M t bi l11 now) {H : Nat → Int32} {no : Nat → Bool} {i : Nat} : 0 ≤ (vF t bi H no i).toInt ∧ (vF t bi H no i).toInt ≤ 240 := vF_br (vr_of h)
theorem all_b (h : VC Mn M t bi l11 now) : kt_allMeasures M = nI (2 ^ Mn - 1) ∧ km_allMeasures M = nI (2 ^ Mn - 1) ∧ ∀ i, i < 32 → b32 (nI (2 ^ Mn - 1)) i = decide (i < Mn) := by
  have hM := h.2.1
  have e : M = nI Mn := nJ_of h.1
  unfold kt_allMeasures km_allMeasures
  rw [e]
  have q := (by decide +kernel : ∀ n, n < 7 → ((1 : Int32) <<< (nI n &&& 31)) - 1 = nI (2 ^ n - 1)) Mn (by omega)
  exact ⟨q, q, fun i hi => (by decide +kernel : ∀ n, n < 7 → ∀ i, i < 32 → b32 (nI (2 ^ n - 1)) i = decide (i < n)) Mn (by omega) i hi⟩
theorem all_ne (h : VC Mn M t bi l11 now) : ∃ i, i < Mn ∧ b32 (nI (2 ^ Mn - 1)) i = true := ⟨0, by have := h.2.1; omega, by rw [(all_b h).2.2 0 (by omega)]; exact decide_eq_true (by have := h.2.1; omega)⟩
theorem pw64 : ∀ n, n < 7 → 2 ^ n - 1 < 64 := by decide
/-- most of six, where the ones behind are 0, and most of the first n -/
theorem most_lock {a b : List Int32} (h2 : 2 ≤ Mn ∧ Mn ≤ 6) (ha : a.length = 6) (he : ∀ i, i < Mn → a.getD i 0 = b.getD i 0) (h0 : ∀ i, Mn ≤ i → i < 6 → a.getD i 0 = 0) (hp : ∀ i, i < 6 → 0 ≤ (a.getD i 0).toInt) {M : Int32} (hM : M.toInt = (Mn : Int)) : kc_most_31 a = km_mostVotes_67_87 M b ∧ ∃ c, c < Mn ∧ kc_most_31 a = nI c := by
  have tail : ∀ (m i c : Nat), i + m = 6 → Mn ≤ i → c < 6 → kc_most_31_4 a m (nI c) (nI i) = nI c := by
    intro m
    induction m with
    | zero => intro i c _ _ _; rfl
    | succ m ih =>
      intro i c hi hm hc
      rw [e_kc_most_31_4, nJ_ix (n := i) (by omega), nJ_ix (n := c) (by omega), nJ_1 (n := i) (by omega), h0 i hm (by omega), if_neg (by
        have := hp c hc
        have e0 : (0 : Int32).toInt = 0 := rfl
        omega)]
      exact ih (i + 1) c (by omega) (by omega) hc
  have loop : ∀ (m i c : Nat), i + m = Mn → c < Mn → ∃ e, e < Mn ∧ km_mostVotes_67_87_4 b m (nI c) (nI i) = nI e ∧ kc_most_31_4 a (m + (6 - Mn)) (nI c) (nI i) = nI e := by
    intro m
    induction m with
    | zero =>
      intro i c hi hc
      refine ⟨c, hc, rfl, ?_⟩
      rw [Nat.zero_add]
      exact tail (6 - Mn) i c (by omega) (by omega) (by omega)
    | succ m ih =>
      intro i c hi hc
      rw [show m + 1 + (6 - Mn) = (m + (6 - Mn)) + 1 by omega, e_kc_most_31_4, e_km_mostVotes_67_87_4, nJ_ix (n := i) (by omega), nJ_ix (n := c) (by omega), nJ_1 (n := i) (by omega), he i (by omega), he c (by omega)]
      by_cases l : (b.getD c 0).toInt < (b.getD i 0).toInt
      · rw [if_pos l, if_pos l]
        exact ih (i + 1) i (by omega) (by omega)
      · rw [if_neg l, if_neg l]
        exact ih (i + 1) c (by omega) hc
  obtain ⟨e, e1, e2, e3⟩ := loop (Mn - 1) 1 0 (by omega) (by omega)
  have q1 : kc_most_31 a = nI e := by
    unfold kc_most_31
    rw [ha, show ((Int32.ofNat 6).toInt - 1).toNat = 5 from rfl]
    rw [show Mn - 1 + (6 - Mn) = 5 by omega] at e3
    exact e3
  have q2 : km_mostVotes_67_87 M b = nI e := by
    unfold km_mostVotes_67_87
    rw [show (M.toInt - 1).toNat = Mn - 1 by omega]
    exact e2
  exact ⟨q1.trans q2.symm, e, e1, q1⟩
theorem cpy6 {f g : List Int32} {k : Nat} (hf : f.length = 384) (hk : k + 6 ≤ 384) (hg : g.length = 6) : (sm_cpy f g k 0 6).length = 6 ∧ ∀ i, i < 6 → (sm_cpy f g k 0 6).getD i 0 = f.getD (k + i) 0 := by
  unfold sm_cpy
  rw [List.take_zero, List.nil_append, List.drop_of_length_le (show g.length ≤ 0 + 6 by omega), List.append_nil]
  refine ⟨by rw [List.length_take, List.length_drop]; omega, fun i hi => ?_⟩
  rw [List.getD_eq_getElem?_getD, List.getD_eq_getElem?_getD, List.getElem?_take, if_pos hi, List.getElem?_drop]
theorem counts_c (h : VC Mn M t bi l11 now) {a31 a35 : List Int32} (h31 : a31.length = 6) (h35 : a35.length = 384) : (kv_countFirsts M t bi a31 a35 l11).1.length = 6 ∧ (kv_countFirsts M t bi a31 a35 l11).2.length = 384 ∧ ∀ i, i < 6 → (kv_countFirsts M t bi a31 a35 l11).1.getD i 0 = vF t bi (fun g => km_highestOf M now (nI g) (nI (2 ^ Mn - 1))) (fun _ => false) i := by
  have hM := h.2.1
  have p64 := pw64 Mn (by omega)
  obtain ⟨e1, -, -⟩ := all_b h
  unfold kv_countFirsts
  rw [e1]
  obtain ⟨t1, t2⟩ := tally_c h h35 p64 rfl (all_ne h) (w := -1)
  have ix : (nI (2 ^ Mn - 1) * 6).toInt.toNat = 6 * (2 ^ Mn - 1) := (by decide +kernel : ∀ a, a < 64 → (nI a * 6).toInt.toNat = 6 * a) _ p64
  rw [ix]
  obtain ⟨c1, c2⟩ := cpy6 (k := 6 * (2 ^ Mn - 1)) t1 (by omega) h31
  refine ⟨c1, t1, fun i hi => ?_⟩
  refine (c2 i hi).trans ?_
  rw [t2 _ (by omega), if_pos (by omega), show 6 * (2 ^ Mn - 1) + i - 6 * (2 ^ Mn - 1) = i by omega]
  unfold vF
  refine sg_congr 12 (fun g hg => ?_)
  show (if b32 t g = true ∧ decide (nI g = -1) = false ∧ km_highestOf M now (nI g) (nI (2 ^ Mn - 1)) = nI i then bi.getD g 0 else 0) = (if b32 t g = true ∧ false = false ∧ km_highestOf M now (nI g) (nI (2 ^ Mn - 1)) = nI i then bi.getD g 0 else 0)
  rw [decide_eq_false (show ¬ nI g = -1 from nI_m1 (by omega))]
theorem vF_0 (h : VC Mn M t bi l11 now) {no : Nat → Bool} {am : Int32} {i : Nat} (hi : Mn ≤ i) (h6 : i < 6) : vF t bi (fun g => km_highestOf M now (nI g) am) no i = 0 := by
  have hM := h.2.1
  unfold vF
  refine (sg_congr 12 (g := fun _ => 0) (fun g hg => ?_)).trans (sg_0 12)
  show (if b32 t g = true ∧ no g = false ∧ km_highestOf M now (nI g) am = nI i then bi.getD g 0 else 0) = 0
  refine if_neg (fun z => ?_)
  have z3 : km_highestOf M now (nI g) am = nI i := z.2.2
  rcases hi_FV h hg (am := am) with ⟨e, -⟩ | ⟨c, c1, e, -⟩
  · rw [e] at z3
    exact nI_m1 (by omega) z3.symm
  · rw [e] at z3
    have := nJ_inj (by omega) (by omega) z3
    omega
theorem firsts_pure (h : VC Mn M t bi l11 now) {a31 a35 a87 : List Int32} (h31 : a31.length = 6) (h35 : a35.length = 384) (h87 : a87.length = 6) {x : Int32} : (kc_firsts M t bi a31 a35 l11 x).1 = (km_firsts M now a87 x).1 := by
  have hM := h.2.1
  obtain ⟨c1, -, c2⟩ := counts_c h h31 h35
  obtain ⟨-, eA, -⟩ := all_b h
  obtain ⟨d1, d2⟩ := lays_m h h87 (all_ne h) (w := 0)
  have z : ∀ i, i < 6 → (kv_countFirsts M t bi a31 a35 l11).1.getD i 0 = (km_laysFirsts M now a87 (nI (2 ^ Mn - 1)) 0).getD i 0 := fun i hi => by
    rw [c2 i hi, d2 i hi, show (fun g => b32 0 g) = fun _ => false from funext b32_0]
  have ml := most_lock (M := M) h.2.1 c1 (fun i hi => z i (by omega)) (fun i h1 h2 => (c2 i h2).trans (vF_0 h h1 h2)) (fun i hi => by rw [c2 i hi]; exact (vF_bd h).1) h.1
  unfold kc_firsts km_firsts
  rw [eA]
  by_cases e : x = 10
  · rw [if_pos e, if_pos e]
    exact ml.1
  · rw [if_neg e, if_neg e]
    rcases vc_isM h x with ⟨a, b⟩ | ⟨a, b, i, rfl, hi⟩
    · rw [if_pos a, if_pos b]
    · rw [if_neg a, if_neg b]
      show (kv_countFirsts M t bi a31 a35 l11).1.getD (nI i).toInt.toNat 0 = (km_laysFirsts M now a87 (nI (2 ^ Mn - 1)) 0).getD (nI i).toInt.toNat 0
      rw [nJ_ix (n := i) (by omega)]
      exact z i (by omega)
end FI
section ANF
variable {as : List Int32} {hp hp1 hp2 : sm_H} {r1 r2 : Int32}
theorem an_firsts (hl : as.length = 1) (hI : ivH IV hp) (hR : R123 hp) (m1 : EM 400 76 (.ref 0 :: as.map Value.int) hp (some (.int r1)) hp1) (hI1 : ivH IV hp1) (m2 : EM 400 204 (.ref 67 :: as.map Value.int) hp1 (some (.int r2)) hp2) : r1 = r2 := by
  obtain ⟨x, rfl⟩ := ln1 hl
  obtain ⟨e1, h1⟩ := u_kc_firsts hI m1
  obtain ⟨e2, -⟩ := u_km_firsts hI1 m2
  have w : exA hp1 68 = exA hp 68 := by rw [h1]; rfl
  have w3 : exF hp1 67 3 = exF hp 3 0 := by rw [hR.1.1.1.1, h1]; rfl
  rw [e1, e2, w, w3]
  exact firsts_pure (vc_of hI hR.1.1 hR.2) (iv_len (k := 31) hI rfl (by decide)) (iv_len (k := 35) hI rfl (by decide)) (iv_len (k := 87) hI1 rfl (by decide))
end ANF
