/-! votes: points -/
section PO
variable {Mn : Nat} {M t : Int32} {bi : List Int32} {l11 : List Int64} {now : List Int32}
/-- what guest g gives to i by j -/
theorem po_in (h : VC Mn M t bi l11 now) {g i : Nat} (hg : g < 12) (hi : i < Mn) : ∀ (m j : Nat) (l : List Int32) (s : Int32), j + m = Mn → l.length = 6 → l.getD i 0 = s + sg j (fun j => if (pl now g i).toInt < (pl now g j).toInt then bi.getD g 0 else 0) → (kv_countPoints_45 bi l11 (nI g) (nI i) m (nI j) l).length = 6 ∧ (kv_countPoints_45 bi l11 (nI g) (nI i) m (nI j) l).getD i 0 = s + sg Mn (fun j => if (pl now g i).toInt < (pl now g j).toInt then bi.getD g 0 else 0) ∧ ∀ q, q ≠ i → (kv_countPoints_45 bi l11 (nI g) (nI i) m (nI j) l).getD q 0 = l.getD q 0 := by
  have hM := h.2.1
  intro m
  induction m with
  | zero =>
    intro j l s hj hl he
    rw [e0_kv_countPoints_45]
    rw [show j = Mn by omega] at he
    exact ⟨hl, he, fun _ _ => rfl⟩
  | succ m ih =>
    intro j l s hj hl he
    have hah := vc_ah h hg hi (show j < Mn by omega)
    rw [e_kv_countPoints_45, nJ_1 (n := j) (by omega), nJ_ix (n := i) (by omega), nJ_ix (n := g) (by omega)]
    by_cases c : (pl now g i).toInt < (pl now g j).toInt
    · rw [if_neg (vt1 (by omega) (hah.trans (decide_eq_true c)))]
      obtain ⟨q1, q2, q3⟩ := ih (j + 1) (l.set i (l.getD i 0 + bi.getD g 0)) s (by omega) (by rw [List.length_set]; exact hl) (by
        rw [gd_set (by omega), if_pos rfl, he, Int32.add_assoc]
        show s + (_ + _) = s + (_ + (if (pl now g i).toInt < (pl now g j).toInt then bi.getD g 0 else 0))
        rw [if_pos c])
      refine ⟨q1, q2, fun q hq => (q3 q hq).trans ?_⟩
      rw [gd_set (by omega), if_neg hq]
    · rw [if_pos (vt0 (by omega) (hah.trans (decide_eq_false c)))]
      exact ih (j + 1) l s (by omega) hl (by
        rw [he]
        show s + _ = s + (_ + (if (pl now g i).toInt < (pl now g j).toInt then bi.getD g 0 else 0))
        rw [if_neg c, Int32.add_zero])
theorem po_32 (h : VC Mn M t bi l11 now) {g : Nat} (hg : g < 12) : ∀ (m i : Nat) (l : List Int32), i + m = Mn → l.length = 6 → (kv_countPoints_32 M bi l11 (nI g) m (nI i) l).length = 6 ∧ ∀ q, (q < i → (kv_countPoints_32 M bi l11 (nI g) m (nI i) l).getD q 0 = l.getD q 0) ∧ (i ≤ q → q < Mn → (kv_countPoints_32 M bi l11 (nI g) m (nI i) l).getD q 0 = l.getD q 0 + sg Mn (fun j => if (pl now g q).toInt < (pl now g j).toInt then bi.getD g 0 else 0)) ∧ (Mn ≤ q → (kv_countPoints_32 M bi l11 (nI g) m (nI i) l).getD q 0 = l.getD q 0) := by
  have hM := h.2.1
  intro m
  induction m with
  | zero =>
    intro i l hi hl
    rw [e0_kv_countPoints_32]
    exact ⟨hl, fun q => ⟨fun _ => rfl, fun z1 z2 => by omega, fun _ => rfl⟩⟩
  | succ m ih =>
    intro i l hi hl
    obtain ⟨p1, p2, p3⟩ := po_in h hg (show i < Mn by omega) Mn 0 l (l.getD i 0) (by omega) hl (by
      show l.getD i 0 = l.getD i 0 + 0
      rw [Int32.add_zero])
    rw [e_kv_countPoints_32, nJ_1 (n := i) (by omega), vc_tn h]
    have p1 : (kv_countPoints_45 bi l11 (nI g) (nI i) Mn 0 l).length = 6 := p1
    have p2 : (kv_countPoints_45 bi l11 (nI g) (nI i) Mn 0 l).getD i 0 = l.getD i 0 + sg Mn (fun j => if (pl now g i).toInt < (pl now g j).toInt then bi.getD g 0 else 0) := p2
    have p3 : ∀ q, q ≠ i → (kv_countPoints_45 bi l11 (nI g) (nI i) Mn 0 l).getD q 0 = l.getD q 0 := p3
    obtain ⟨q1, q2⟩ := ih (i + 1) _ (by omega) p1
    refine ⟨q1, fun q => ⟨fun z => ?_, fun z1 z2 => ?_, fun z => ?_⟩⟩
    · rw [(q2 q).1 (by omega), p3 q (by omega)]
    · by_cases e : q = i
      · rw [(q2 q).1 (by omega), e, p2]
      · rw [(q2 q).2.1 (by omega) z2, p3 q e]
    · rw [(q2 q).2.2 z, p3 q (by omega)]
theorem po_10 (h : VC Mn M t bi l11 now) : ∀ (m g : Nat) (l : List Int32), g + m = 12 → l.length = 6 → (∀ q, q < Mn → l.getD q 0 = sg g (fun g => sg Mn (fun j => pF t bi now q j g))) → (∀ q, Mn ≤ q → q < 6 → l.getD q 0 = 0) → (kv_countPoints_10 M t bi l11 m (nI g) l).length = 6 ∧ (∀ q, q < Mn → (kv_countPoints_10 M t bi l11 m (nI g) l).getD q 0 = sg 12 (fun g => sg Mn (fun j => pF t bi now q j g))) ∧ ∀ q, Mn ≤ q → q < 6 → (kv_countPoints_10 M t bi l11 m (nI g) l).getD q 0 = 0 := by
  have hM := h.2.1
  intro m
  induction m with
  | zero =>
    intro g l hg hl h1 h2
    rw [e0_kv_countPoints_10]
    rw [show g = 12 by omega] at h1
    exact ⟨hl, h1, h2⟩
  | succ m ih =>
    intro g l hg hl h1 h2
    rw [e_kv_countPoints_10, nJ_1 (n := g) (by omega), vc_tn h]
    rcases vc_told h (show g < 12 by omega) with ⟨p, -, b⟩ | ⟨p, -, b⟩
    · rw [if_pos p]
      refine ih (g + 1) l (by omega) hl (fun q hq => ?_) h2
      rw [h1 q hq]
      refine (sg_s (f := fun g => sg Mn (fun j => pF t bi now q j g)) ?_).symm
      show sg Mn (fun j => pF t bi now q j g) = 0
      exact (sg_congr Mn (f := fun j => pF t bi now q j g) (g := fun _ => 0) (fun j hj => if_neg (fun z : b32 t g = true ∧ _ => by rw [b] at z; cases z.1))).trans (sg_0 Mn)
    · rw [if_neg (by rw [p]; decide)]
      obtain ⟨q1, q2⟩ := po_32 h (show g < 12 by omega) Mn 0 l (by omega) hl
      refine ih (g + 1) _ (by omega) q1 (fun q hq => ?_) (fun q hq h6 => ?_)
      · refine ((q2 q).2.1 (by omega) hq).trans ?_
        rw [h1 q hq]
        show _ + _ = sg g (fun g => sg Mn (fun j => pF t bi now q j g)) + sg Mn (fun j => pF t bi now q j g)
        refine congrArg _ (sg_congr Mn (fun j hj => ?_))
        unfold pF
        by_cases c : (pl now g q).toInt < (pl now g j).toInt
        · rw [if_pos c, if_pos ⟨b, c⟩]
        · rw [if_neg c, if_neg (fun z => c z.2)]
      · exact ((q2 q).2.2 hq).trans (h2 q hq h6)
theorem fill31 {l : List Int32} (h : l.length = 6) : (kja_fill_31 l 0).length = 6 ∧ ∀ q, q < 6 → (kja_fill_31 l 0).getD q 0 = 0 := by
  have loop : ∀ (m i : Nat) (l : List Int32), i + m = 6 → l.length = 6 → (∀ q, q < i → l.getD q 0 = 0) → (kja_fill_31_5 0 m (nI i) l).length = 6 ∧ ∀ q, q < 6 → (kja_fill_31_5 0 m (nI i) l).getD q 0 = 0 := by
    intro m
    induction m with
    | zero =>
      intro i l hi hl he
      rw [e0_kja_fill_31_5]
      rw [show i = 6 by omega] at he
      exact ⟨hl, he⟩
    | succ m ih =>
      intro i l hi hl he
      rw [e_kja_fill_31_5, nJ_ix (n := i) (by omega), nJ_1 (n := i) (by omega)]
      refine ih (i + 1) _ (by omega) (by rw [List.length_set]; exact hl) (fun q hq => ?_)
      rw [gd_set (by omega)]
      by_cases e : q = i
      · rw [if_pos e]
      · rw [if_neg e]
        exact he q (by omega)
  unfold kja_fill_31
  rw [h, show ((Int32.ofNat 6).toInt).toNat = 6 from rfl]
  exact loop 6 0 l rfl h (fun q hq => by omega)
theorem po_m (h : VC Mn M t bi l11 now) : ∀ (m i : Nat) (l : List Int32), i + m = Mn → l.length = 6 → (∀ q, q < i → l.getD q 0 = sg Mn (fun j => pS t bi now q j)) → (km_points_18 M now m (nI i) l).length = 6 ∧ ∀ q, q < Mn → (km_points_18 M now m (nI i) l).getD q 0 = sg Mn (fun j => pS t bi now q j) := by
  have hM := h.2.1
  have inner : ∀ i, i < Mn → ∀ (m j : Nat) (l : List Int32), j + m = Mn → l.length = 6 → l.getD i 0 = sg j (fun j => pS t bi now i j) → (km_points_35 now (nI i) m (nI j) l).length = 6 ∧ (km_points_35 now (nI i) m (nI j) l).getD i 0 = sg Mn (fun j => pS t bi now i j) ∧ ∀ q, q ≠ i → (km_points_35 now (nI i) m (nI j) l).getD q 0 = l.getD q 0 := by
    intro i hi m
    induction m with
    | zero =>
      intro j l hj hl he
      rw [e0_km_points_35]
      rw [show j = Mn by omega] at he
      exact ⟨hl, he, fun _ _ => rfl⟩
    | succ m ih =>
      intro j l hj hl he
      rw [e_km_points_35, nJ_1 (n := j) (by omega), nJ_ix (n := i) (by omega), pair_m h hi (show j < Mn by omega)]
      obtain ⟨q1, q2, q3⟩ := ih (j + 1) (l.set i (l.getD i 0 + pS t bi now i j)) (by omega) (by rw [List.length_set]; exact hl) (by
        rw [gd_set (by omega), if_pos rfl, he]
        rfl)
      refine ⟨q1, q2, fun q hq => (q3 q hq).trans ?_⟩
      rw [gd_set (by omega), if_neg hq]
  intro m
  induction m with
  | zero =>
    intro i l hi hl he
    rw [e0_km_points_18]
    rw [show i = Mn by omega] at he
    exact ⟨hl, he⟩
  | succ m ih =>
    intro i l hi hl he
    rw [e_km_points_18, nJ_1 (n := i) (by omega), nJ_ix (n := i) (by omega), vc_tn h]
    obtain ⟨p1, p2, p3⟩ := inner i (by omega) Mn 0 (l.set i 0) (by omega) (by rw [List.length_set]; exact hl) (by
      rw [gd_set (by omega), if_pos rfl]
      rfl)
    refine ih (i + 1) _ (by omega) p1 (fun q hq => ?_)
    by_cases e : q = i
    · rw [e]
      exact p2
    · refine (p3 q e).trans ?_
      rw [gd_set (by omega), if_neg e]
      exact he q (by omega)
theorem most_88 {l : List Int32} {M : Int32} : km_mostVotes_67_88 M l = km_mostVotes_67_87 M l := by
  have loop : ∀ (m : Nat) (x y : Int32), km_mostVotes_67_88_4 l m x y = km_mostVotes_67_87_4 l m x y := by
    intro m
    induction m with
    | zero => intro x y; rfl
    | succ m ih =>
      intro x y
      rw [e_km_mostVotes_67_88_4, e_km_mostVotes_67_87_4, ih, ih]
  unfold km_mostVotes_67_88 km_mostVotes_67_87
  exact loop _ _ _
theorem sg_bd2 {b : Nat} (hb : b ≤ 100000) {f : Nat → Int32} : ∀ (n : Nat), n ≤ 12 → (∀ i, i < n → 0 ≤ (f i).toInt ∧ (f i).toInt ≤ (b : Int)) → 0 ≤ (sg n f).toInt ∧ (sg n f).toInt ≤ (b : Int) * (n : Int)
  | 0, _, _ => ⟨by show 0 ≤ (0 : Int32).toInt; decide, by show (0 : Int32).toInt ≤ _; have e0 : (0 : Int32).toInt = 0 := rfl; rw [e0]; exact Int.mul_nonneg (by omega) (by omega)⟩
  | n + 1, hn, h => by
    have q := sg_bd2 hb n (by omega) (fun i hi => h i (by omega))
    have w := h n (by omega)
    have m1 : (b : Int) * (n : Int) ≤ 100000 * 12 := Int.mul_le_mul (by omega) (by omega) (by omega) (by omega)
    have e : (sg n f + f n).toInt = (sg n f).toInt + (f n).toInt := an_add32 (by omega) (by omega)
    show 0 ≤ (sg n f + f n).toInt ∧ (sg n f + f n).toInt ≤ (b : Int) * ((n + 1 : Nat) : Int)
    rw [e, show ((n + 1 : Nat) : Int) = (n : Int) + 1 by omega, Int.mul_add, Int.mul_one]
    omega
theorem points_pure (h : VC Mn M t bi l11 now) {a31 a88 : List Int32} (h31 : a31.length = 6) (h88 : a88.length = 6) {x : Int32} : (kc_points M t bi a31 l11 x).1 = (km_points M now a88 x).1 := by
  have hM := h.2.1
  obtain ⟨f1, f2⟩ := fill31 h31
  obtain ⟨c1, c2, c3⟩ := po_10 h 12 0 (kja_fill_31 a31 0) rfl f1 (fun q hq => f2 q (by omega)) (fun q _ hq => f2 q hq)
  obtain ⟨d1, d2⟩ := po_m h Mn 0 a88 (by omega) h88 (fun q hq => by omega)
  have c1 : (kv_countPoints M t bi a31 l11).length = 6 := c1
  have c2 : ∀ q, q < Mn → (kv_countPoints M t bi a31 l11).getD q 0 = sg Mn (fun j => pS t bi now q j) := fun q hq => (c2 q hq).trans (sg_comm (f := fun g j => pF t bi now q j g) Mn 12)
  have c3 : ∀ q, Mn ≤ q → q < 6 → (kv_countPoints M t bi a31 l11).getD q 0 = 0 := c3
  have d2 : ∀ q, q < Mn → (km_points_18 M now Mn 0 a88).getD q 0 = sg Mn (fun j => pS t bi now q j) := d2
  have z : ∀ i, i < Mn → (kv_countPoints M t bi a31 l11).getD i 0 = (km_points_18 M now Mn 0 a88).getD i 0 := fun i hi => (c2 i hi).trans (d2 i hi).symm
  have ml := most_lock (M := M) h.2.1 c1 z c3 (fun i hi => by
    by_cases e : i < Mn
    · rw [c2 i e]
      exact (sg_bd2 (b := 240) (by omega) Mn (by omega) (fun j hj => pS_bd h)).1
    · rw [c3 i (by omega) hi]
      decide) h.1
  unfold kc_points km_points
  rw [vc_tn h, most_88]
  by_cases e : x = 10
  · rw [if_pos e, if_pos e]
    exact ml.1
  · rw [if_neg e, if_neg e]
    rcases vc_isM h x with ⟨a, b⟩ | ⟨a, b, i, rfl, hi⟩
    · rw [if_pos a, if_pos b]
    · rw [if_neg a, if_neg b]
      show (kv_countPoints M t bi a31 l11).getD (nI i).toInt.toNat 0 = (km_points_18 M now Mn 0 a88).getD (nI i).toInt.toNat 0
      rw [nJ_ix (n := i) (by omega)]
      exact z i hi
end PO
section ANPO
variable {as : List Int32} {hp hp1 hp2 : sm_H} {r1 r2 : Int32}
theorem an_points (hl : as.length = 1) (hI : ivH IV hp) (hR : R123 hp) (m1 : EM 400 80 (.ref 0 :: as.map Value.int) hp (some (.int r1)) hp1) (hI1 : ivH IV hp1) (m2 : EM 400 208 (.ref 67 :: as.map Value.int) hp1 (some (.int r2)) hp2) : r1 = r2 := by
  obtain ⟨x, rfl⟩ := ln1 hl
  obtain ⟨e1, h1⟩ := u_kc_points hI m1
  obtain ⟨e2, -⟩ := u_km_points hI1 m2
  have w : exA hp1 68 = exA hp 68 := by rw [h1]; rfl
  have w3 : exF hp1 67 3 = exF hp 3 0 := by rw [hR.1.1.1.1, h1]; rfl
  rw [e1, e2, w, w3]
  exact points_pure (vc_of hI hR.1.1 hR.2) (iv_len (k := 31) hI rfl (by decide)) (iv_len (k := 88) hI1 rfl (by decide))
end ANPO
