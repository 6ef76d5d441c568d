/-! parted: half of the table by seats and by guests -/
section PART
variable {M t M' : Int32} {ga se bi now : List Int32}
theorem i32_ring {a s h : Int32} (e : a + s = h + h) : a - 2 * h = -s := by
  have e2 : (2 : Int32) * h = h + h := by
    rw [show (2 : Int32) = 1 + 1 from rfl, Int32.add_mul, Int32.one_mul]
  rw [e2, ← e, Int32.sub_eq_add_neg, Int32.neg_add, Int32.sub_eq_add_neg (-a) s, ← Int32.add_assoc, Int32.add_right_neg, Int32.zero_add]
theorem abs_neg {s : Int32} : kjm_abs (-s) = km_size s := by
  unfold kjm_abs km_size
  have t := an_top s
  by_cases m : s.toInt = -2147483648
  · rw [show s = -2147483648 from Int32.toInt_inj.mp m]
    decide
  · have e : (-s).toInt = -s.toInt := by
      rw [← Int32.zero_sub]
      have e0 : (0 : Int32).toInt = 0 := rfl
      rw [an_sub32 (by omega) (by omega), e0]
      omega
    rw [e]
    by_cases h : s.toInt < 0
    · rw [if_pos h, if_neg (by omega)]
    · rw [if_neg h]
      by_cases h2 : s.toInt = 0
      · rw [if_neg (by omega), show s = 0 from Int32.toInt_inj.mp h2]
        rfl
      · rw [if_pos (by omega), Int32.neg_neg]
theorem rem12' : ∀ a, a < 12 → ∀ b, b < 12 → (nI a - nI b + 12) - (nI a - nI b + 12) / 12 * 12 = nI ((a + 12 - b) % 12) := dist12
/-- what guest g counts for, if told and so and so -/
def wB (t : Int32) (bi : List Int32) (p : Nat → Bool) (g : Nat) : Int32 := if b32 t g = true ∧ p g = true then bi.getD g 0 else 0
theorem all_sum : kt_allBiscuits t bi = sg 12 (wB t bi (fun _ => true)) := by
  unfold kt_allBiscuits
  refine lp_sum (lp := kt_allBiscuits_4 t bi) (n := 12) (by omega) (fun s i => rfl) (fun m s i hi => ?_) 12 0 0 rfl rfl
  show (if kt_isTold t (nI i) = 0 then kt_allBiscuits_4 t bi m s (nI i + 1) else kt_allBiscuits_4 t bi m (s + bi.getD (nI i).toInt.toNat 0) (nI i + 1)) = _
  rw [nJ_ix (by omega)]
  unfold wB
  rcases kt_told t (nI i) with ⟨p, q⟩ | ⟨p, q⟩ <;> rw [p] <;> rw [tq_n hi] at q
  · rw [if_pos rfl, if_neg (fun z => q z.1), Int32.add_zero]
  · rw [if_neg (by decide), if_pos ⟨q, rfl⟩]
/-- the half that begins at seat x -/
def inH (se : List Int32) (x : Nat) (g : Nat) : Bool := decide ((sN se g + 12 - x) % 12 < 6)
theorem half_sum (hs : ∀ g, g < 12 → 0 ≤ (se.getD g 0).toInt ∧ (se.getD g 0).toInt ≤ 11) (hb : ∀ s, s < 12 → -1 ≤ (ga.getD s 0).toInt ∧ (ga.getD s 0).toInt ≤ 11) (hS : SEATS t ga se) {x : Nat} (hx : x < 12) : kt_amountBetweenHalves_4 ga bi (nI x) 6 0 0 = sg 12 (wB t bi (inH se x)) := by
  have h1 : kt_amountBetweenHalves_4 ga bi (nI x) 6 0 (nI 0) = sg 6 (fun i => sg 12 (fun g => if b32 t g = true ∧ sN se g = (x + i) % 12 then bi.getD g 0 else 0)) := by
    refine lp_sum (lp := kt_amountBetweenHalves_4 ga bi (nI x)) (n := 6) (by omega) (fun s i => rfl) (fun m s i hi => ?_) 6 0 0 rfl rfl
    show (if ga.getD ((nI x + nI i) - (nI x + nI i) / 12 * 12).toInt.toNat 0 = -1 then kt_amountBetweenHalves_4 ga bi (nI x) m s (nI i + 1) else kt_amountBetweenHalves_4 ga bi (nI x) m (s + bi.getD (ga.getD ((nI x + nI i) - (nI x + nI i) / 12 * 12).toInt.toNat 0).toInt.toNat 0) (nI i + 1)) = _
    rw [nI_plus, rem12 _ (by omega), nJ_ix (by omega)]
    have key : ∀ g, g < 12 → ((b32 t g = true ∧ sN se g = (x + i) % 12) ↔ ga.getD ((x + i) % 12) 0 = nI g) := fun g hg => by
      obtain ⟨c1, c2⟩ := seat_n hs hg
      rw [hS ((x + i) % 12) (by omega) g hg, c1]
      exact ⟨fun z => ⟨z.1, by rw [z.2]⟩, fun z => ⟨z.1, nJ_inj (by omega) (by omega) z.2⟩⟩
    have hv := hb ((x + i) % 12) (by omega)
    generalize ga.getD ((x + i) % 12) 0 = v at key hv ⊢
    by_cases e : v = -1
    · rw [if_pos e, sg_congr 12 (g := fun _ => 0) (fun g hg => if_neg (fun z => by
        have q := (key g hg).mp z
        rw [e] at q
        exact nI_m1 (by omega) q.symm)), sg_0, Int32.add_zero]
    · rw [if_neg e]
      have nv : v.toInt ≠ -1 := fun z => e (Int32.toInt_inj.mp z)
      have ev : v = nI v.toInt.toNat := nJ_of (by omega)
      rw [sg_congr 12 (g := fun g => if g = v.toInt.toNat then bi.getD v.toInt.toNat 0 else 0) (fun g hg => ?_), sg_one, if_pos (by omega)]
      by_cases e2 : g = v.toInt.toNat
      · rw [if_pos e2, if_pos ((key g hg).mpr (by rw [e2]; exact ev)), e2]
      · rw [if_neg e2, if_neg (fun z => e2 (nJ_inj (by omega) (by omega) (((key g hg).mp z).symm.trans ev)))]
  show kt_amountBetweenHalves_4 ga bi (nI x) 6 0 (nI 0) = _
  rw [h1, sg_comm]
  refine sg_congr 12 (fun g hg => ?_)
  obtain ⟨c1, c2⟩ := seat_n hs hg
  unfold wB inH
  by_cases tg : b32 t g = true
  · rw [sg_congr 6 (g := fun i => if i = (sN se g + 12 - x) % 12 then bi.getD g 0 else 0) (fun i hi => ?_), sg_one]
    · by_cases e : (sN se g + 12 - x) % 12 < 6
      · rw [if_pos e, if_pos ⟨tg, decide_eq_true e⟩]
      · rw [if_neg e, if_neg (fun z => e (of_decide_eq_true z.2))]
    · by_cases e : i = (sN se g + 12 - x) % 12
      · rw [if_pos e, if_pos ⟨tg, by omega⟩]
      · rw [if_neg e, if_neg (fun z => e (by omega))]
  · rw [sg_congr 6 (g := fun _ => 0) (fun i hi => if_neg (fun z => tg z.1)), sg_0, if_neg (fun z => tg z.1)]
theorem apart_sum (h2 : t = now.getD 144 0) (h3 : ∀ g, g < 12 → se.getD g 0 = now.getD g 0) (h4 : ∀ g, g < 12 → bi.getD g 0 = now.getD (12 + g) 0) (hs : ∀ g, g < 12 → 0 ≤ (se.getD g 0).toInt ∧ (se.getD g 0).toInt ≤ 11) {x : Nat} (hx : x < 12) : km_apartBy_4 now (nI x) 12 0 0 = sg 12 (fun g => if b32 t g = true then (if inH se x g = true then bi.getD g 0 else -(bi.getD g 0)) else 0) := by
  refine lp_sum (lp := km_apartBy_4 now (nI x)) (n := 12) (by omega) (fun s i => rfl) (fun m s i hi => ?_) 12 0 0 rfl rfl
  show (if km_isGuest now (nI i) = 0 then km_apartBy_4 now (nI x) m s (nI i + 1) else (if ((((now.getD (0 + nI i).toInt.toNat 0) - nI x) + 12) - (((now.getD (0 + nI i).toInt.toNat 0) - nI x) + 12) / 12 * 12).toInt < 6 then km_apartBy_4 now (nI x) m (s + now.getD (12 + nI i).toInt.toNat 0) (nI i + 1) else km_apartBy_4 now (nI x) m (s + (-(now.getD (12 + nI i).toInt.toNat 0))) (nI i + 1))) = _
  obtain ⟨c1, c2⟩ := seat_n hs hi
  rw [nJ_ad (k := 0) rfl (by omega), nJ_ad (k := 12) rfl (by omega), Nat.zero_add, ← h3 i hi, ← h4 i hi, c1, dist12 _ c2 _ hx]
  have en := nI_toInt (n := (sN se i + 12 - x) % 12) (by omega)
  rw [en]
  rcases km_told now (nI i) with ⟨p, q⟩ | ⟨p, q⟩ <;> rw [p] <;> rw [← h2, tq_n hi] at q
  · rw [if_pos rfl, if_neg q, Int32.add_zero]
  · rw [if_neg (by decide), if_pos q]
    unfold inH
    by_cases e : (sN se i + 12 - x) % 12 < 6
    · rw [if_pos (by omega), if_pos (decide_eq_true e)]
    · rw [if_neg (by omega), if_neg (fun z => e (of_decide_eq_true z))]
theorem amount_eq (hR : R1v M t ga se bi M' now) (hb : ∀ s, s < 12 → -1 ≤ (ga.getD s 0).toInt ∧ (ga.getD s 0).toInt ≤ 11) (hs : ∀ g, g < 12 → 0 ≤ (se.getD g 0).toInt ∧ (se.getD g 0).toInt ≤ 11) {x : Nat} (hx : x < 12) : kt_amountBetweenHalves t ga bi (nI x) = km_apartBy now (nI x) := by
  obtain ⟨-, r2, r3, r4, r5⟩ := hR
  unfold kt_amountBetweenHalves km_apartBy
  rw [half_sum hs hb r5 hx, apart_sum r2 r3 r4 hs hx, all_sum, ← abs_neg]
  refine congrArg kjm_abs (i32_ring ?_)
  rw [← sg_add, ← sg_add]
  refine sg_congr 12 (fun g hg => ?_)
  unfold wB
  by_cases tg : b32 t g = true
  · rw [if_pos ⟨tg, rfl⟩, if_pos tg]
    by_cases e : inH se x g = true
    · rw [if_pos e, if_pos ⟨tg, e⟩]
    · rw [if_neg e, if_neg (fun z => e z.2), Int32.add_right_neg]
      rfl
  · rw [if_neg (fun z => tg z.1), if_neg tg, if_neg (fun z => tg z.1)]
theorem parted_pure (hR : R1v M t ga se bi M' now) (hb : ∀ s, s < 12 → -1 ≤ (ga.getD s 0).toInt ∧ (ga.getD s 0).toInt ≤ 11) (hs : ∀ g, g < 12 → 0 ≤ (se.getD g 0).toInt ∧ (se.getD g 0).toInt ≤ 11) {x : Int32} : kc_parted t ga bi x = km_parted now x := by
  have am : ∀ x, x < 12 → kt_amountBetweenHalves t ga bi (nI x) = km_apartBy now (nI x) := fun x hx => amount_eq hR hb hs hx
  have loop : ∀ (m i b : Nat), i + m = 6 → b < 6 → ∃ c, c < 6 ∧ kc_parted_25 t ga bi m (nI b) (km_apartBy now (nI b)) (nI i) = (nI c, km_apartBy now (nI c)) ∧ km_parted_15 now m (nI b) (nI i) = nI c := by
    intro m
    induction m with
    | zero => intro i b hi hb; exact ⟨b, hb, rfl, rfl⟩
    | succ m ih =>
      intro i b hi hb
      show ∃ c, c < 6 ∧ (if (kt_amountBetweenHalves t ga bi (nI i)).toInt < (km_apartBy now (nI b)).toInt then kc_parted_25 t ga bi m (nI i) (kt_amountBetweenHalves t ga bi (nI i)) (nI i + 1) else kc_parted_25 t ga bi m (nI b) (km_apartBy now (nI b)) (nI i + 1)) = (nI c, km_apartBy now (nI c)) ∧ (if (km_apartBy now (nI i)).toInt < (km_apartBy now (nI b)).toInt then km_parted_15 now m (nI i) (nI i + 1) else km_parted_15 now m (nI b) (nI i + 1)) = nI c
      rw [am i (by omega), nJ_1 (by omega)]
      by_cases e : (km_apartBy now (nI i)).toInt < (km_apartBy now (nI b)).toInt
      · rw [if_pos e, if_pos e]
        exact ih (i + 1) i (by omega) (by omega)
      · rw [if_neg e, if_neg e]
        exact ih (i + 1) b (by omega) hb
  unfold kc_parted km_parted
  rw [within_in]
  by_cases c1 : km_in x 0 1 = 0
  · rw [if_pos c1, if_pos c1]
  · rw [if_neg c1, if_neg c1]
    obtain ⟨c, hc, p, q⟩ := loop 5 1 0 rfl (by omega)
    have p : kc_parted_25 t ga bi 5 0 (kt_amountBetweenHalves t ga bi 0) 1 = (nI c, km_apartBy now (nI c)) := by
      have a0 := am 0 (by omega)
      have a0 : kt_amountBetweenHalves t ga bi 0 = km_apartBy now (nI 0) := a0
      rw [a0]
      exact p
    have q : km_parted_15 now 5 0 1 = nI c := q
    rw [p, q]
end PART
section ANP
variable {as : List Int32} {hp hp1 hp2 : sm_H} {r1 r2 : Int32}
theorem an_parted (hl : as.length = 1) (hI : ivH IV hp) (hR : R1 hp) (m1 : EM 400 128 (.ref 0 :: as.map Value.int) hp (some (.int r1)) hp1) (hI1 : ivH IV hp1) (m2 : EM 400 240 (.ref 67 :: as.map Value.int) hp1 (some (.int r2)) hp2) : r1 = r2 := by
  obtain ⟨x, rfl⟩ := ln1 hl
  obtain ⟨e1, h1⟩ := u_kc_parted hI m1
  obtain ⟨e2, -⟩ := u_km_parted hI1 m2
  have w : exA hp1 68 = exA hp 68 := by rw [h1]; rfl
  rw [e1, e2, w]
  exact parted_pure hR.1 (fun s hs => bd_at (lo := 0) (hi := 0) hI rfl hs) (fun s hs => bd_at (lo := 0) (hi := 0) hI rfl hs)
end ANP
