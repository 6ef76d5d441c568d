/-! how many bits; whom to win over -/
noncomputable def ush (y k : Int32) : Int32 := (y.toUInt32 >>> (k.toUInt32 &&& Int32.toUInt32 31)).toInt32
noncomputable def bcA (x : Int32) : Int32 := x - (ush x 1 &&& 1431655765)
noncomputable def bcB (y : Int32) : Int32 := (y &&& 858993459) + (ush y 2 &&& 858993459)
noncomputable def bcC (y : Int32) : Int32 := (y + ush y 4) &&& 252645135
noncomputable def bcD (y : Int32) : Int32 := y + ush y 8
noncomputable def bcE (y : Int32) : Int32 := (y + ush y 16) &&& 63
theorem bc_eq (x : Int32) : kji_bitCount x = bcE (bcD (bcC (bcB (bcA x)))) := rfl
noncomputable def bnA (s : Nat) : Nat := s - ((s >>> 1) &&& 1431655765)
noncomputable def bnB (s : Nat) : Nat := (s &&& 858993459) + ((s >>> 2) &&& 858993459)
noncomputable def bnC (s : Nat) : Nat := (s + (s >>> 4)) &&& 252645135
noncomputable def bnD (s : Nat) : Nat := s + (s >>> 8)
noncomputable def bnE (s : Nat) : Nat := (s + (s >>> 16)) &&& 63
theorem nI_and (a b : Nat) : nI a &&& nI b = nI (a &&& b) := b32_ext fun k hk => by
  rw [b32_and, b32_n hk, b32_n hk, b32_n hk, Nat.testBit_and]
theorem ush_n {a k : Nat} (ha : a < 4294967296) (hk : k < 32) : ush (nI a) (nI k) = nI (a >>> k) := b32_ext fun g hg => by
  have hc : ((nI k).toUInt32 &&& Int32.toUInt32 31).toBitVec % 32 = BitVec.ofNat 32 k := (by decide +kernel : ∀ k, k < 32 → ((nI k).toUInt32 &&& Int32.toUInt32 31).toBitVec % 32 = BitVec.ofNat 32 k) k hk
  unfold ush
  have e : b32 (((nI a).toUInt32 >>> ((nI k).toUInt32 &&& Int32.toUInt32 31)).toInt32) g = b32 (nI a) (k + g) := by
    unfold b32
    rw [UInt32.toBitVec_toInt32, UInt32.toBitVec_shiftRight, hc, BitVec.ushiftRight_eq', BitVec.getLsbD_ushiftRight, Int32.toBitVec_toUInt32, BitVec.toNat_ofNat, Nat.mod_eq_of_lt (by omega)]
  rw [e, b32_n hg, Nat.testBit_shiftRight]
  by_cases h : k + g < 32
  · rw [b32_n h]
  · rw [b32_ge (by omega), Nat.testBit_lt_two_pow (Nat.lt_of_lt_of_le ha (show 4294967296 ≤ 2 ^ (k + g) from (Nat.pow_le_pow_right (by omega) (by omega) : 2 ^ 32 ≤ 2 ^ (k + g))))]
theorem nI_less {a b : Nat} (h : b ≤ a) : nI a - nI b = nI (a - b) := by
  have e := nI_plus (a - b) b
  rw [show a - b + b = a by omega] at e
  rw [← e, Int32.add_sub_cancel]
/-- bits of a set, counted -/
noncomputable def pop : Nat → Nat → Nat
  | 0, _ => 0
  | n + 1, s => pop n s + (s >>> n) % 2
noncomputable def bnP (s : Nat) : Prop := (s >>> 1) &&& 1431655765 ≤ s ∧ bnA s < 4294967296 ∧ bnB (bnA s) < 4294967296 ∧ bnC (bnB (bnA s)) < 4294967296 ∧ bnD (bnC (bnB (bnA s))) < 4294967296 ∧ bnE (bnD (bnC (bnB (bnA s)))) = pop 12 s
theorem bn_64 : ∀ h, h < 64 → ∀ l, l < 64 → bnP (64 * h + l) := by
  unfold bnP
  decide +kernel
theorem bn_all (s : Nat) (hs : s < 4096) : bnP s := by
  have e := bn_64 (s / 64) (by omega) (s % 64) (by omega)
  rw [show 64 * (s / 64) + s % 64 = s by omega] at e
  exact e
theorem bc_n {s : Nat} (hs : s < 4096) : kji_bitCount (nI s) = nI (pop 12 s) := by
  obtain ⟨h1, h2, h3, h4, h5, h6⟩ := bn_all s hs
  have a : bcA (nI s) = nI (bnA s) := by
    show nI s - (ush (nI s) (nI 1) &&& nI 1431655765) = _
    rw [ush_n (by omega) (by omega), nI_and, nI_less h1]
    rfl
  have b : bcB (nI (bnA s)) = nI (bnB (bnA s)) := by
    show (nI (bnA s) &&& nI 858993459) + (ush (nI (bnA s)) (nI 2) &&& nI 858993459) = _
    rw [ush_n h2 (by omega), nI_and, nI_and, nI_plus]
    rfl
  have c : bcC (nI (bnB (bnA s))) = nI (bnC (bnB (bnA s))) := by
    show (nI (bnB (bnA s)) + ush (nI (bnB (bnA s))) (nI 4)) &&& nI 252645135 = _
    rw [ush_n h3 (by omega), nI_plus, nI_and]
    rfl
  have d : bcD (nI (bnC (bnB (bnA s)))) = nI (bnD (bnC (bnB (bnA s)))) := by
    show nI (bnC (bnB (bnA s))) + ush (nI (bnC (bnB (bnA s)))) (nI 8) = _
    rw [ush_n h4 (by omega), nI_plus]
    rfl
  have e : bcE (nI (bnD (bnC (bnB (bnA s))))) = nI (bnE (bnD (bnC (bnB (bnA s))))) := by
    show (nI (bnD (bnC (bnB (bnA s)))) + ush (nI (bnD (bnC (bnB (bnA s))))) (nI 16)) &&& nI 63 = _
    rw [ush_n h5 (by omega), nI_plus, nI_and]
    rfl
  rw [bc_eq, a, b, c, d, e, h6]
theorem bits_n {s : Nat} : km_bits (nI s) = nI (pop 12 s) := by
  have loop : ∀ (m g : Nat), g + m = 12 → km_bits_4 (nI s) m (nI (pop g s)) (nI g) = nI (pop 12 s) := by
    intro m
    induction m with
    | zero =>
      intro g hg
      rw [e0_km_bits_4, show g = 12 by omega]
    | succ m ih =>
      intro g hg
      rw [e_km_bits_4, nJ_1 (n := g) (by omega), tst (nI_toInt (n := g) (by omega)) (show g < 32 by omega), b32_n (show g < 32 by omega)]
      have i2 := ih (g + 1) (by omega)
      have q : pop (g + 1) s = pop g s + (s >>> g) % 2 := rfl
      have tb : s.testBit g = decide ((s >>> g) % 2 = 1) := by
        rw [Nat.testBit_eq_decide_div_mod_eq, Nat.shiftRight_eq_div_pow]
      rw [tb]
      by_cases c : (s >>> g) % 2 = 1
      · rw [decide_eq_true c, if_pos rfl]
        rw [q, c] at i2
        exact (congrArg (fun z => km_bits_4 (nI s) m z (nI (g + 1))) (nI_plus (pop g s) 1)).trans i2
      · rw [decide_eq_false c, if_neg (by decide), Int32.add_zero]
        rw [q, show (s >>> g) % 2 = 0 by omega] at i2
        exact i2
  exact loop 12 0 rfl
theorem pop_12 : ∀ (n s : Nat), pop n s ≤ n
  | 0, _ => Nat.le_refl _
  | n + 1, s => by
    have := pop_12 n s
    show pop n s + (s >>> n) % 2 ≤ n + 1
    omega
section WO
variable {Mn : Nat} {M t : Int32} {bi : List Int32} {l11 : List Int64} {now : List Int32}
/-- sets of told ones as numbers -/
theorem sub_12 {t : Int32} {tm : Nat} (ht : t = nI tm) (h4 : tm < 4096) {x : Int32} (h : x &&& (t ^^^ (-1)) = 0) : ∃ s, s < 4096 ∧ x = nI s ∧ ∀ g, g < 32 → s.testBit g = true → b32 t g = true := by
  have sub : ∀ g, g < 32 → b32 x g = true → b32 t g = true := fun g hg hb => by
    have q := b32_and x (t ^^^ (-1)) g
    rw [h, b32_0, hb, Bool.true_and, b32_not hg] at q
    cases z : b32 t g with
    | true => rfl
    | false => rw [z] at q; cases q
  have hi : ∀ g, 12 ≤ g → g < 32 → b32 x g = false := fun g h1 h2 => by
    cases z : b32 x g with
    | false => rfl
    | true =>
      have := sub g h2 z
      rw [ht, b32_n h2, Nat.testBit_lt_two_pow (Nat.lt_of_lt_of_le h4 (show 4096 ≤ 2 ^ g from (Nat.pow_le_pow_right (by omega) h1 : 2 ^ 12 ≤ 2 ^ g)))] at this
      cases this
  have e : x = x &&& 4095 := b32_ext fun k hk => by
    rw [b32_and]
    by_cases c : k < 12
    · rw [(by decide +kernel : ∀ k, k < 12 → b32 4095 k = true) k c, Bool.and_true]
    · rw [hi k (by omega) hk]
      rfl
  have l : (x &&& 4095).toBitVec.toNat < 4096 := by
    rw [Int32.toBitVec_and, BitVec.toNat_and]
    exact Nat.lt_of_le_of_lt Nat.and_le_right (by decide)
  have ex : x = nI (x &&& 4095).toBitVec.toNat := e.trans (nJ_of (BitVec.toInt_eq_toNat_of_lt (by omega)))
  refine ⟨_, l, ex, fun g hg hb => sub g hg ?_⟩
  rw [ex, b32_n hg]
  exact hb
theorem fo_c (h : VC Mn M t bi l11 now) {a41 : List Int32} (h41 : a41.length = 12) : (kv_fewestToWin_6 M l11 12 0 a41).length = 12 ∧ ∀ g, g < 12 → (kv_fewestToWin_6 M l11 12 0 a41).getD g 0 = km_highestOf M now (nI g) (nI (2 ^ Mn - 1)) := by
  obtain ⟨eA, -, -⟩ := all_b h
  have loop : ∀ (m g : Nat) (l : List Int32), g + m = 12 → l.length = 12 → (∀ q, q < g → l.getD q 0 = km_highestOf M now (nI q) (nI (2 ^ Mn - 1))) → (kv_fewestToWin_6 M l11 m (nI g) l).length = 12 ∧ ∀ q, q < 12 → (kv_fewestToWin_6 M l11 m (nI g) l).getD q 0 = km_highestOf M now (nI q) (nI (2 ^ Mn - 1)) := by
    intro m
    induction m with
    | zero =>
      intro g l hg hl he
      rw [e0_kv_fewestToWin_6]
      rw [show g = 12 by omega] at he
      exact ⟨hl, he⟩
    | succ m ih =>
      intro g l hg hl he
      rw [e_kv_fewestToWin_6, nJ_1 (n := g) (by omega), nJ_ix (n := g) (by omega), eA, fav_eq h (show g < 12 by omega)]
      refine ih (g + 1) _ (by omega) (by rw [List.length_set]; exact hl) (fun q hq => ?_)
      rw [gd_set (by omega)]
      by_cases e : q = g
      · rw [if_pos e, e]
      · rw [if_neg e]
        exact he q (by omega)
  exact loop 12 0 a41 rfl h41 (fun q hq => by omega)
/-- what a set that is won over changes -/
noncomputable def dF (bi : List Int32) (H : Nat → Int32) (s i q g : Nat) : Int32 := if s.testBit g = true then (if H g = nI q then -(bi.getD g 0) else 0) + (if q = i then bi.getD g 0 else 0) else 0
theorem mv_c (h : VC Mn M t bi l11 now) {a41 : List Int32} (h41 : ∀ g, g < 12 → a41.getD g 0 = km_highestOf M now (nI g) (nI (2 ^ Mn - 1))) {i s : Nat} (hi : i < Mn) : ∀ (m g : Nat) (l c : List Int32), g + m = 12 → l.length = 6 → (∀ q, q < 6 → l.getD q 0 = c.getD q 0 + sg g (dF bi (fun g => km_highestOf M now (nI g) (nI (2 ^ Mn - 1))) s i q)) → (kv_winsWith_17 bi a41 (nI i) (nI s) m (nI g) l).length = 6 ∧ ∀ q, q < 6 → (kv_winsWith_17 bi a41 (nI i) (nI s) m (nI g) l).getD q 0 = c.getD q 0 + sg 12 (dF bi (fun g => km_highestOf M now (nI g) (nI (2 ^ Mn - 1))) s i q) := by
  have hM := h.2.1
  intro m
  induction m with
  | zero =>
    intro g l c hg hl he
    rw [e0_kv_winsWith_17]
    rw [show g = 12 by omega] at he
    exact ⟨hl, he⟩
  | succ m ih =>
    intro g l c hg hl he
    rw [e_kv_winsWith_17, nJ_1 (n := g) (by omega), nJ_ix (n := g) (by omega), nJ_ix (n := i) (by omega)]
    by_cases b : s.testBit g = true
    · obtain ⟨k, k1, k2, -⟩ := hi_in h (show g < 12 by omega) (all_ne h)
      rw [if_neg (vt1 (by omega) ((b32_n (by omega)).trans b)), h41 g (by omega), k2, if_neg (nI_m1 (by omega)), nJ_ix (n := k) (by omega)]
      refine ih (g + 1) _ c (by omega) (by rw [List.length_set, List.length_set]; exact hl) (fun q hq => ?_)
      have dg : dF bi (fun g => km_highestOf M now (nI g) (nI (2 ^ Mn - 1))) s i q g = (if q = k then -(bi.getD g 0) else 0) + (if q = i then bi.getD g 0 else 0) := by
        show (if s.testBit g = true then (if km_highestOf M now (nI g) (nI (2 ^ Mn - 1)) = nI q then -(bi.getD g 0) else 0) + (if q = i then bi.getD g 0 else 0) else 0) = _
        rw [if_pos b, k2]
        by_cases e : q = k
        · rw [if_pos e, if_pos (by rw [e])]
        · rw [if_neg e, if_neg (fun z => e (nJ_inj (by omega) (by omega) z).symm)]
      show _ = c.getD q 0 + (sg g (dF bi (fun g => km_highestOf M now (nI g) (nI (2 ^ Mn - 1))) s i q) + dF bi (fun g => km_highestOf M now (nI g) (nI (2 ^ Mn - 1))) s i q g)
      rw [dg, ← Int32.add_assoc, ← he q hq]
      have st : ∀ j, j < 6 → (l.set k (l.getD k 0 - bi.getD g 0)).getD j 0 = l.getD j 0 + (if j = k then -(bi.getD g 0) else 0) := fun j hj => by
        rw [gd_set (by omega)]
        by_cases e : j = k
        · rw [if_pos e, if_pos e, e, Int32.sub_eq_add_neg]
        · rw [if_neg e, if_neg e, Int32.add_zero]
      rw [gd_set (by rw [List.length_set]; omega), st i (by omega), st q hq]
      by_cases e : q = i
      · rw [if_pos e, if_pos e, e, Int32.add_assoc]
      · rw [if_neg e, if_neg e, Int32.add_zero]
    · have b := eq_false_of_ne_true b
      rw [if_pos (vt0 (by omega) ((b32_n (by omega)).trans b))]
      refine ih (g + 1) l c (by omega) hl (fun q hq => ?_)
      rw [he q hq]
      exact congrArg _ (sg_s (if_neg (by rw [b]; decide))).symm
theorem of_sum (h : VC Mn M t bi l11 now) (Y : Int32) : km_biscuitsOf now Y = sg 12 (fun g => if b32 Y g = true then bi.getD g 0 else 0) := by
  unfold km_biscuitsOf
  refine lp_sum (lp := km_biscuitsOf_4 now Y) (f := fun g => if b32 Y g = true then bi.getD g 0 else 0) (n := 12) (by omega) (fun _ _ => rfl) (fun m s g hg => ?_) 12 0 0 rfl rfl
  show km_biscuitsOf_4 now Y (m + 1) s (nI g) = km_biscuitsOf_4 now Y m (s + (if b32 Y g = true then bi.getD g 0 else 0)) (nI g + 1)
  rw [e_km_biscuitsOf_4, nJ_ad (a := 12) (k := 12) (n := g) rfl (by omega), ← h.2.2.2.1 g hg]
  by_cases b : b32 Y g = true
  · rw [if_neg (vh1 (by omega) b), if_pos b]
  · rw [if_pos (vh0 (by omega) (eq_false_of_ne_true b)), if_neg b]
/-- both sides say alike whether a set wins -/
theorem wins_eq (h : VC Mn M t bi l11 now) {a31 a41 a42 a87 : List Int32} (h31 : ∀ q, q < 6 → a31.getD q 0 = vF t bi (fun g => km_highestOf M now (nI g) (nI (2 ^ Mn - 1))) (fun _ => false) q) (l31 : a31.length = 6) (h42 : a42.length = 6) (h41 : ∀ g, g < 12 → a41.getD g 0 = km_highestOf M now (nI g) (nI (2 ^ Mn - 1))) (h87 : a87.length = 6) {i s : Nat} (hi : i < Mn) (hs : ∀ g, g < 32 → s.testBit g = true → b32 t g = true) : (kv_winsWith M bi a31 a41 a42 (nI i) (nI s)).1 = (km_isWon M now a87 (nI i) (nI s)).1 ∧ (kv_winsWith M bi a31 a41 a42 (nI i) (nI s)).2.length = 6 ∧ (km_isWon M now a87 (nI i) (nI s)).2.length = 6 := by
  have hM := h.2.1
  obtain ⟨-, eB, -⟩ := all_b h
  obtain ⟨d1, d2⟩ := lays_m h h87 (all_ne h) (w := nI s)
  have cp : sm_cpy a31 a42 0 0 6 = a31 := by
    unfold sm_cpy
    rw [List.take_zero, List.drop_zero, List.nil_append, List.take_of_length_le (by omega), List.drop_of_length_le (by omega), List.append_nil]
  obtain ⟨m1, m2⟩ := mv_c h h41 hi (s := s) 12 0 a31 a31 rfl l31 (fun q hq => by
    show _ = _ + (0 : Int32)
    rw [Int32.add_zero])
  have same : ∀ q, q < 6 → (kv_winsWith_17 bi a41 (nI i) (nI s) 12 0 a31).getD q 0 = ((km_laysFirsts M now a87 (nI (2 ^ Mn - 1)) (nI s)).set i ((km_laysFirsts M now a87 (nI (2 ^ Mn - 1)) (nI s)).getD i 0 + km_biscuitsOf now (nI s))).getD q 0 := fun q hq => by
    refine (m2 q hq).trans ?_
    rw [h31 q hq, gd_set (by omega), of_sum h]
    unfold vF
    rw [← sg_add]
    have key : sg 12 (fun g => vG t bi (fun g => km_highestOf M now (nI g) (nI (2 ^ Mn - 1))) (fun _ => false) q g + dF bi (fun g => km_highestOf M now (nI g) (nI (2 ^ Mn - 1))) s i q g) = sg 12 (fun g => vG t bi (fun g => km_highestOf M now (nI g) (nI (2 ^ Mn - 1))) (fun g => b32 (nI s) g) q g + (if q = i then (if b32 (nI s) g = true then bi.getD g 0 else 0) else 0)) := by
      refine sg_congr 12 (fun g hg => ?_)
      show (if b32 t g = true ∧ false = false ∧ km_highestOf M now (nI g) (nI (2 ^ Mn - 1)) = nI q then bi.getD g 0 else 0) + (if s.testBit g = true then (if km_highestOf M now (nI g) (nI (2 ^ Mn - 1)) = nI q then -(bi.getD g 0) else 0) + (if q = i then bi.getD g 0 else 0) else 0) = (if b32 t g = true ∧ b32 (nI s) g = false ∧ km_highestOf M now (nI g) (nI (2 ^ Mn - 1)) = nI q then bi.getD g 0 else 0) + (if q = i then (if b32 (nI s) g = true then bi.getD g 0 else 0) else 0)
      rw [b32_n (show g < 32 by omega)]
      by_cases b : s.testBit g = true
      · rw [if_pos b, if_pos b, if_neg (fun z : b32 t g = true ∧ s.testBit g = false ∧ km_highestOf M now (nI g) (nI (2 ^ Mn - 1)) = nI q => by rw [b] at z; cases z.2.1), Int32.zero_add]
        by_cases e : km_highestOf M now (nI g) (nI (2 ^ Mn - 1)) = nI q
        · rw [if_pos ⟨hs g (by omega) b, rfl, e⟩, if_pos e, ← Int32.add_assoc, Int32.add_right_neg, Int32.zero_add]
        · rw [if_neg (fun z : b32 t g = true ∧ false = false ∧ km_highestOf M now (nI g) (nI (2 ^ Mn - 1)) = nI q => e z.2.2), if_neg e, Int32.zero_add, Int32.zero_add]
      · rw [if_neg b, if_neg b]
        have b := eq_false_of_ne_true b
        rw [b]
        have z : (if q = i then 0 else 0 : Int32) = 0 := by
          by_cases e : q = i
          · rw [if_pos e]
          · rw [if_neg e]
        rw [z]
    rw [key, sg_add, show sg 12 (fun g => vG t bi (fun g => km_highestOf M now (nI g) (nI (2 ^ Mn - 1))) (fun g => b32 (nI s) g) q g) = (km_laysFirsts M now a87 (nI (2 ^ Mn - 1)) (nI s)).getD q 0 from (d2 q hq).symm]
    by_cases e : q = i
    · rw [if_pos e, e]
      refine congrArg _ (sg_congr 12 (fun g _ => if_pos rfl))
    · rw [if_neg e, sg_congr 12 (g := fun _ => 0) (fun g _ => if_neg e), sg_0, Int32.add_zero]
  unfold kv_winsWith km_isWon
  rw [cp, eB, nJ_ix (n := i) (by omega), vc_tn h]
  have l1 : (kv_winsWith_17 bi a41 (nI i) (nI s) 12 0 a31).length = 6 := m1
  have l2 : ((km_laysFirsts M now a87 (nI (2 ^ Mn - 1)) (nI s)).set i ((km_laysFirsts M now a87 (nI (2 ^ Mn - 1)) (nI s)).getD i 0 + km_biscuitsOf now (nI s))).length = 6 := by rw [List.length_set]; exact d1
  generalize kv_winsWith_17 bi a41 (nI i) (nI s) 12 0 a31 = A at same l1 ⊢
  generalize (km_laysFirsts M now a87 (nI (2 ^ Mn - 1)) (nI s)).set i ((km_laysFirsts M now a87 (nI (2 ^ Mn - 1)) (nI s)).getD i 0 + km_biscuitsOf now (nI s)) = B at same l2 ⊢
  have loop : ∀ (m j : Nat), j + m = Mn → (kv_winsWith_93 A (nI i) m (nI j)).1 = (km_isWon_29 B (nI i) m (nI j)).1 ∧ (kv_winsWith_93 A (nI i) m (nI j)).2.length = 6 ∧ (km_isWon_29 B (nI i) m (nI j)).2.length = 6 := by
    intro m
    induction m with
    | zero => intro j _; exact ⟨rfl, l1, l2⟩
    | succ m ih =>
      intro j hj
      rw [e_kv_winsWith_93, e_km_isWon_29, nJ_1 (n := j) (by omega), nJ_ix (n := j) (by omega), nJ_ix (n := i) (by omega), same j (by omega), same i (by omega)]
      by_cases e : nI j = nI i
      · rw [if_pos e, if_pos e]
        exact ih (j + 1) (by omega)
      · rw [if_neg e, if_neg e]
        by_cases c : (B.getD j 0).toInt < (B.getD i 0).toInt
        · rw [if_pos c, if_pos c]
          exact ih (j + 1) (by omega)
        · rw [if_neg c, if_neg c]
          exact ⟨rfl, l1, l2⟩
  exact loop Mn 0 (by omega)
theorem wonOver_pure (h : VC Mn M t bi l11 now) {tm : Nat} (ht : t = nI tm) (h4 : tm < 4096) {a31 a35 a41 a42 a87 : List Int32} (h31 : a31.length = 6) (h35 : a35.length = 384) (h41 : a41.length = 12) (h42 : a42.length = 6) (h87 : a87.length = 6) {x y : Int32} : (kc_wonOver M t bi a31 a35 a41 a42 l11 x y).1 = (km_wonOver M now a87 x y).1 := by
  have hM := h.2.1
  unfold kc_wonOver km_wonOver
  rw [within_in]
  rcases vc_isM h x with ⟨a, b⟩ | ⟨a, b, i, rfl, hi⟩
  · rw [if_pos a, if_pos b]
  · rw [if_neg a, if_neg b]
    by_cases c : km_in y 0 1 = 0
    · rw [if_pos c, if_pos c]
    · rw [if_neg c, if_neg c]
      obtain ⟨c1, -, c2⟩ := counts_c h h31 h35
      obtain ⟨f1, f2⟩ := fo_c h h41
      have em : (t.toInt + 1).toNat = tm + 1 := by rw [ht, nI_toInt (by omega)]; omega
      have loop : ∀ (m s : Nat) (y2 y3 y3' : Int32) (l r : List Int32), s + m = tm + 1 → l.length = 6 → r.length = 6 → ((y2 = 13 ∧ y3 = -1 ∧ y3' = -2) ∨ ∃ b, b < 4096 ∧ y2 = nI (pop 12 b) ∧ y3 = nI b ∧ y3' = nI b) → ((kv_fewestToWin_47 M t bi (kv_countFirsts M t bi a31 a35 l11).1 (kv_fewestToWin_6 M l11 12 0 a41) (nI i) m y2 y3 (nI s) l).1 = -1 ∧ (km_wonOver_25 M now (nI i) m y3' (nI s) r).1 = -2) ∨ ∃ b, b < 4096 ∧ (kv_fewestToWin_47 M t bi (kv_countFirsts M t bi a31 a35 l11).1 (kv_fewestToWin_6 M l11 12 0 a41) (nI i) m y2 y3 (nI s) l).1 = nI b ∧ (km_wonOver_25 M now (nI i) m y3' (nI s) r).1 = nI b := by
        intro m
        induction m with
        | zero =>
          intro s y2 y3 y3' l r _ _ _ hh
          rw [e0_kv_fewestToWin_47, e0_km_wonOver_25]
          rcases hh with ⟨-, z1, z2⟩ | ⟨b, b1, -, b2, b3⟩
          · exact Or.inl ⟨z1, z2⟩
          · exact Or.inr ⟨b, b1, b2, b3⟩
        | succ m ih =>
          intro s y2 y3 y3' l r hs hl hr hh
          rw [e_kv_fewestToWin_47, e_km_wonOver_25, nJ_1 (n := s) (by omega), ← h.2.2.1, bc_n (show s < 4096 by omega), bits_n]
          by_cases sub : nI s &&& (t ^^^ (-1)) = 0
          · rw [if_pos sub, if_pos sub]
            obtain ⟨s', s1, s2, s3⟩ := sub_12 ht h4 sub
            have es := nJ_inj (m := s) (n := s') (by omega) (by omega) s2
            subst es
            obtain ⟨w1, w2, w3⟩ := wins_eq h c2 c1 hl f2 hr hi s3
            have ps := nI_toInt (n := pop 12 s) (by have := pop_12 12 s; omega)
            have p12 := pop_12 12 s
            rw [w1]
            have take : ∀ (l' r' : List Int32) (q : (kv_winsWith M bi (kv_countFirsts M t bi a31 a35 l11).1 (kv_fewestToWin_6 M l11 12 0 a41) l (nI i) (nI s)).2 = l') (q' : (km_isWon M now r (nI i) (nI s)).2 = r'), _ := fun l' r' q q' => ih (s + 1) (nI (pop 12 s)) (nI s) (nI s) l' r' (by omega) (by rw [← q]; exact w2) (by rw [← q']; exact w3) (Or.inr ⟨s, by omega, rfl, rfl, rfl⟩)
            rcases hh with ⟨z0, z1, z2⟩ | ⟨b, b1, b0, b2, b3⟩
            · rw [z0, z1, z2, if_pos (show (nI (pop 12 s)).toInt < (13 : Int32).toInt by rw [show (13 : Int32).toInt = 13 from rfl]; omega), if_pos rfl]
              by_cases d : (km_isWon M now r (nI i) (nI s)).1 = 0
              · rw [if_pos d, if_pos d]
                exact ih (s + 1) _ _ _ _ _ (by omega) w2 w3 (Or.inl ⟨rfl, rfl, rfl⟩)
              · rw [if_neg d, if_neg d]
                exact take _ _ rfl rfl
            · have pb := nI_toInt (n := pop 12 b) (by have := pop_12 12 b; omega)
              rw [b0, b2, b3, bits_n, if_neg (show ¬ nI b = -2 from fun z => by
                have e1 := nI_toInt (n := b) (by omega)
                rw [z] at e1
                have e2 : (-2 : Int32).toInt = -2 := rfl
                omega)]
              by_cases e : (nI (pop 12 s)).toInt < (nI (pop 12 b)).toInt
              · rw [if_pos e, if_pos e]
                by_cases d : (km_isWon M now r (nI i) (nI s)).1 = 0
                · rw [if_pos d, if_pos d]
                  exact ih (s + 1) _ _ _ _ _ (by omega) w2 w3 (Or.inr ⟨b, b1, rfl, rfl, rfl⟩)
                · rw [if_neg d, if_neg d]
                  exact take _ _ rfl rfl
              · rw [if_neg e, if_neg e]
                exact ih (s + 1) _ _ _ _ _ (by omega) hl hr (Or.inr ⟨b, b1, rfl, rfl, rfl⟩)
          · rw [if_neg sub, if_neg sub]
            exact ih (s + 1) y2 y3 y3' l r (by omega) hl hr hh
      have q := loop (tm + 1) 0 13 (-1) (-2) a42 a87 (by omega) h42 h87 (Or.inl ⟨rfl, rfl, rfl⟩)
      unfold kv_fewestToWin
      rw [← h.2.2.1, em]
      have e0 : (0 : Int32).toInt = 0 := rfl
      have e1 : (1 : Int32).toInt = 1 := rfl
      rw [in_0, e0, e1, Decidable.not_not] at c
      have y01 : y = 0 ∨ y = 1 := by
        by_cases z : y.toInt = 0
        · exact Or.inl (Int32.toInt_inj.mp z)
        · exact Or.inr (Int32.toInt_inj.mp (by omega))
      rcases q with ⟨q1, q2⟩ | ⟨b, b1, q1, q2⟩
      · have q1 : (kv_fewestToWin_47 M t bi (kv_countFirsts M t bi a31 a35 l11).1 (kv_fewestToWin_6 M l11 12 0 a41) (nI i) (tm + 1) 13 (-1) 0 a42).1 = -1 := q1
        have q2 : (km_wonOver_25 M now (nI i) (tm + 1) (-2) 0 a87).1 = -2 := q2
        rw [q1, q2, if_pos rfl]
        rcases y01 with rfl | rfl
        · rw [if_neg (show ¬ (0 : Int32) = 1 by decide), if_pos rfl]
        · rw [if_pos rfl]
      · have q1 : (kv_fewestToWin_47 M t bi (kv_countFirsts M t bi a31 a35 l11).1 (kv_fewestToWin_6 M l11 12 0 a41) (nI i) (tm + 1) 13 (-1) 0 a42).1 = nI b := q1
        have q2 : (km_wonOver_25 M now (nI i) (tm + 1) (-2) 0 a87).1 = nI b := q2
        rw [q1, q2, if_neg (nI_m1 (by omega)), bc_n b1, bits_n]
        rcases y01 with rfl | rfl
        · rw [if_neg (show ¬ (0 : Int32) = 1 by decide), if_pos rfl, if_neg (show ¬ nI b = -2 from fun z => by
            have e1 := nI_toInt (n := b) (by omega)
            rw [z] at e1
            have e2 : (-2 : Int32).toInt = -2 := rfl
            omega)]
        · rw [if_pos rfl, if_neg (show ¬ (1 : Int32) = 0 by decide)]
end WO
section ANWO
variable {as : List Int32} {hp hp1 hp2 : sm_H} {r1 r2 : Int32}
theorem an_wonOver (hl : as.length = 2) (hI : ivH IV hp) (hR : R123 hp) (m1 : EM 400 111 (.ref 0 :: as.map Value.int) hp (some (.int r1)) hp1) (hI1 : ivH IV hp1) (m2 : EM 400 232 (.ref 67 :: as.map Value.int) hp1 (some (.int r2)) hp2) : r1 = r2 := by
  obtain ⟨x, y, rfl⟩ := ln2 hl
  have b := iv_fb (k := 3) (j := 1) (b := (0, 4095)) hI rfl
  have b1 := b.1
  have b2 := b.2
  dsimp only at b1 b2
  have w144 : (exA hp 68).getD 144 0 = exF hp 3 1 := hR.1.1.1.2.1.symm
  obtain ⟨e1, h1⟩ := u_kc_wonOver hI (by omega) m1
  have w : exA hp1 68 = exA hp 68 := by rw [h1]; rfl
  have w3 : exF hp1 67 3 = exF hp 3 0 := by rw [hR.1.1.1.1, h1]; rfl
  obtain ⟨e2, -⟩ := u_km_wonOver hI1 (by rw [w, w144]; omega) m2
  rw [e1, e2, w, w3]
  exact wonOver_pure (vc_of hI hR.1.1 hR.2) (tm := (exF hp 3 1).toInt.toNat) (nJ_of (by omega)) (by omega) (iv_len (k := 31) hI rfl (by decide)) (iv_len (k := 35) hI rfl (by decide)) (iv_len (k := 41) hI rfl (by decide)) (iv_len (k := 42) hI rfl (by decide)) (iv_len (k := 87) hI1 rfl (by decide))
end ANWO
