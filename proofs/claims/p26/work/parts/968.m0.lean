/-! what a lift says of a call; bits; sums -/
theorem lf_c {d μ : Nat} {as : List Value} {hp hp' : sm_H} {v : Option Value} {Q : Option Value → sm_H → Prop} (hI : ivH IV hp) (h : EM d μ as hp v hp') (t : ∀ f, wl_M f d μ as (hz (exF hp) (exA hp) (exL hp)) Q) : Q v hp' := by
  obtain ⟨N, hN⟩ := h
  have t' : wl_M N d μ as hp Q := (congrArg (fun z => wl_M N d μ as z Q) (iv_hz hI)).mpr (t N)
  exact t' d v hp' (Nat.le_refl _) (hN N (Nat.le_refl _))
theorem lf_cf {d μ : Nat} {as : List Value} {hp hp' : sm_H} {v : Option Value} {Q : Nat → Option Value → sm_H → Prop} (hI : ivH IV hp) (h : EM d μ as hp v hp') (t : ∀ f, d ≤ f → wl_M f d μ as (hz (exF hp) (exA hp) (exL hp)) (Q f)) : ∃ N, ∀ f, N ≤ f → Q f v hp' := by
  obtain ⟨N, hN⟩ := h
  refine ⟨N + d, fun f hf => ?_⟩
  have t' : wl_M f d μ as hp (Q f) := (congrArg (fun z => wl_M f d μ as z (Q f)) (iv_hz hI)).mpr (t f (by omega))
  exact t' d v hp' (Nat.le_refl _) (hN f (by omega))
theorem iv_ab {I : List iv_C} {hp : sm_H} {k kd i : Nat} {se : List (Nat × Int × Int)} {b : Int × Int} (h : ivH I hp) (hk : I[k]? = some (.inl (kd, se))) (hkd : kd ≠ 1) (hb : an_at se i = some b) : b.1 ≤ ((exA hp k).getD i 0).toInt ∧ ((exA hp k).getD i 0).toInt ≤ b.2 := by
  obtain ⟨d, d1, d2⟩ := ivH_get h hk
  match d, d1, d2 with
  | .inl (k', .inl l), d1, d2 =>
    obtain ⟨h1, h2, h3⟩ : kd = k' ∧ k' ≠ 1 ∧ an_rA se l := d2
    have e : exA hp k = l := by unfold exA; rw [d1]
    rw [e]
    by_cases hl : i < l.length
    · have q : l[i]? = some (l.getD i 0) := q_gd hl
      exact h3.2 i _ b q hb
    · exact absurd (an_at_lt _ _ _ hb) (by rw [← h3.1]; exact hl)
  | .inl (k', .inr l), d1, d2 =>
    obtain ⟨h1, h2, h3⟩ : kd = k' ∧ k' = 1 ∧ l.length = an_len se := d2
    exact absurd (h1.trans h2) hkd
  | .inr _, _, d2 => exact d2.elim
noncomputable def b32 (t : Int32) (g : Nat) : Bool := t.toBitVec.getLsbD g
theorem b32_ext {x y : Int32} (h : ∀ g, g < 32 → b32 x g = b32 y g) : x = y := Int32.toBitVec_inj.mp (BitVec.eq_of_getLsbD_eq h)
theorem b32_or (x y : Int32) (g : Nat) : b32 (x ||| y) g = (b32 x g || b32 y g) := by
  unfold b32
  rw [Int32.toBitVec_or, BitVec.getLsbD_or]
theorem b32_and (x y : Int32) (g : Nat) : b32 (x &&& y) g = (b32 x g && b32 y g) := by
  unfold b32
  rw [Int32.toBitVec_and, BitVec.getLsbD_and]
theorem b32_xor (x y : Int32) (g : Nat) : b32 (x ^^^ y) g = Bool.xor (b32 x g) (b32 y g) := by
  unfold b32
  rw [Int32.toBitVec_xor, BitVec.getLsbD_xor]
theorem b32_ge {x : Int32} {g : Nat} (h : 32 ≤ g) : b32 x g = false := BitVec.getLsbD_of_ge _ _ h
theorem nJ_of {x : Int32} {n : Nat} (h : x.toInt = (n : Int)) : x = nI n := by
  have := an_top x
  exact Int32.toInt_inj.mp (by rw [h, nI_toInt (by omega)])
theorem nJ_inj {m n : Nat} (hm : m < 2147483648) (hn : n < 2147483648) (h : nI m = nI n) : m = n := by
  have e1 := nI_toInt (n := m) (by omega)
  have e2 := nI_toInt (n := n) (by omega)
  rw [h] at e1
  omega
theorem nJ_1 {n : Nat} (h : n < 2147483647) : nI n + 1 = nI (n + 1) := by
  have e1 := nI_toInt (n := n) (by omega)
  have e2 := nI_toInt (n := n + 1) (by omega)
  exact Int32.toInt_inj.mp (by rw [i_up (B := 2147483647) (show (nI n).toInt < (2147483647 : Int) by omega), e1, e2]; omega)
theorem nJ_ix {n : Nat} (h : n < 2147483648) : (nI n).toInt.toNat = n := by
  rw [nI_toInt (by omega)]
  exact Int.toNat_natCast n
theorem nJ_ad {a : Int32} {k n : Nat} (ha : a.toInt = (k : Int)) (h : k + n < 2147483648) : (a + nI n).toInt.toNat = k + n := by
  have e := nI_toInt (n := n) (by omega)
  rw [an_add32 (by omega) (by omega), ha, e]
  omega
theorem sh_k : ∀ k, k < 32 → (nI k &&& 31).toBitVec.smod 32 = BitVec.ofNat 32 k := by decide +kernel
theorem b32_shr {t x : Int32} {k : Nat} (hx : x.toInt = (k : Int)) (hk : k < 32) {g : Nat} (hg : k + g < 32) : b32 (t >>> (x &&& 31)) g = b32 t (k + g) := by
  rw [nJ_of hx]
  unfold b32
  rw [Int32.toBitVec_shiftRight, sh_k k hk, BitVec.sshiftRight_eq', BitVec.getLsbD_sshiftRight]
  have e : (BitVec.ofNat 32 k).toNat = k := by rw [BitVec.toNat_ofNat]; omega
  have e2 : decide (32 ≤ g) = false := decide_eq_false (by omega)
  rw [e, if_pos hg, e2]
  rfl
theorem b32_one (g : Nat) : b32 1 g = decide (g = 0) := by
  by_cases h : g < 32
  · exact (by decide +kernel : ∀ g, g < 32 → b32 1 g = decide (g = 0)) g h
  · rw [b32_ge (by omega)]
    exact (decide_eq_false (by omega)).symm
theorem b32_bit : ∀ k, k < 32 → ∀ g, g < 32 → b32 ((1 : Int32) <<< (nI k &&& 31)) g = decide (g = k) := by decide +kernel
theorem b32_shl {x : Int32} {k : Nat} (hx : x.toInt = (k : Int)) (hk : k < 32) {g : Nat} (hg : g < 32) : b32 ((1 : Int32) <<< (x &&& 31)) g = decide (g = k) := by
  rw [nJ_of hx]
  exact b32_bit k hk g hg
theorem b32_0 (g : Nat) : b32 0 g = false := by
  by_cases h : g < 32
  · exact (by decide +kernel : ∀ g, g < 32 → b32 0 g = false) g h
  · exact b32_ge (by omega)
theorem b32_m1 {g : Nat} (h : g < 32) : b32 (-1) g = true := (by decide +kernel : ∀ g, g < 32 → b32 (-1) g = true) g h
theorem tst {t x : Int32} {k : Nat} (hx : x.toInt = (k : Int)) (hk : k < 32) : ((t >>> (x &&& 31)) &&& 1) = if b32 t k = true then 1 else 0 := by
  apply b32_ext
  intro g hg
  rw [b32_and, b32_one]
  by_cases h0 : g = 0
  · subst h0
    rw [b32_shr hx hk (by omega), Nat.add_zero]
    cases b32 t k with
    | true => rw [if_pos rfl]; decide +kernel
    | false => rw [if_neg (by decide)]; decide +kernel
  · rw [decide_eq_false h0, Bool.and_false]
    split
    · rw [b32_one, decide_eq_false h0]
    · rw [b32_0]
/-- told -/
noncomputable def tq (t x : Int32) : Prop := (0 ≤ x.toInt ∧ x.toInt < 12) ∧ b32 t x.toInt.toNat = true
theorem tq_n {t : Int32} {g : Nat} (hg : g < 12) : tq t (nI g) ↔ b32 t g = true := by
  have e := nI_toInt (n := g) (by omega)
  unfold tq
  rw [nJ_ix (by omega)]
  exact ⟨fun h => h.2, fun h => ⟨⟨by omega, by omega⟩, h⟩⟩
theorem kt_told (t x : Int32) : (kt_isTold t x = 0 ∧ ¬ tq t x) ∨ (kt_isTold t x = 1 ∧ tq t x) := by
  unfold kt_isTold tq
  by_cases h : x.toInt < 0
  · rw [if_pos h]
    exact Or.inl ⟨rfl, fun z => by omega⟩
  · rw [if_neg h]
    by_cases h2 : x.toInt < 12
    · rw [if_pos h2, tst (k := x.toInt.toNat) (by omega) (by omega)]
      cases b32 t x.toInt.toNat with
      | true => exact Or.inr ⟨by decide, ⟨by omega, h2⟩, rfl⟩
      | false => exact Or.inl ⟨by decide, fun z => by cases z.2⟩
    · rw [if_neg h2]
      exact Or.inl ⟨rfl, fun z => by omega⟩
theorem km_told (now : List Int32) (x : Int32) : (km_isGuest now x = 0 ∧ ¬ tq (now.getD 144 0) x) ∨ (km_isGuest now x = 1 ∧ tq (now.getD 144 0) x) := by
  unfold km_isGuest km_in km_has tq
  have e0 : (0 : Int32).toInt = 0 := rfl
  have e11 : (11 : Int32).toInt = 11 := rfl
  by_cases h : x.toInt < 0
  · rw [if_pos (show x.toInt < (0 : Int32).toInt by omega), if_pos rfl]
    exact Or.inl ⟨rfl, fun z => by omega⟩
  · rw [if_neg (show ¬ x.toInt < (0 : Int32).toInt by omega)]
    by_cases h2 : 11 < x.toInt
    · rw [if_pos (show (11 : Int32).toInt < x.toInt by omega), if_pos rfl]
      exact Or.inl ⟨rfl, fun z => by omega⟩
    · rw [if_neg (show ¬ (11 : Int32).toInt < x.toInt by omega), if_neg (by decide), tst (k := x.toInt.toNat) (by omega) (by omega)]
      cases b32 (now.getD 144 0) x.toInt.toNat with
      | true => exact Or.inr ⟨by decide, ⟨by omega, by omega⟩, rfl⟩
      | false => exact Or.inl ⟨by decide, fun z => by cases z.2⟩
theorem told_same {t : Int32} {now : List Int32} (h : t = now.getD 144 0) (x : Int32) : kt_isTold t x = km_isGuest now x := by
  rcases kt_told t x with ⟨a, b⟩ | ⟨a, b⟩ <;> rcases km_told now x with ⟨c, d⟩ | ⟨c, d⟩
  · rw [a, c]
  · rw [h] at b; exact absurd d b
  · rw [h] at b; exact absurd b d
  · rw [a, c]
theorem within_in : kc_within = km_in := rfl
theorem in_0 {x a b : Int32} : km_in x a b = 0 ↔ ¬ (a.toInt ≤ x.toInt ∧ x.toInt ≤ b.toInt) := by
  unfold km_in
  by_cases h : x.toInt < a.toInt
  · rw [if_pos h]
    exact ⟨fun _ z => by omega, fun _ => rfl⟩
  · rw [if_neg h]
    by_cases h2 : b.toInt < x.toInt
    · rw [if_pos h2]
      exact ⟨fun _ z => by omega, fun _ => rfl⟩
    · rw [if_neg h2]
      exact ⟨fun z => absurd z (by decide), fun z => absurd ⟨by omega, by omega⟩ z⟩
/-- sums of numbers -/
noncomputable def sg : Nat → (Nat → Int32) → Int32
  | 0, _ => 0
  | n + 1, f => sg n f + f n
theorem sg_congr {f g : Nat → Int32} : ∀ (n : Nat), (∀ i, i < n → f i = g i) → sg n f = sg n g
  | 0, _ => rfl
  | n + 1, h => by
    show sg n f + f n = sg n g + g n
    rw [sg_congr n (fun i hi => h i (by omega)), h n (by omega)]
theorem sg_add {f g : Nat → Int32} : ∀ (n : Nat), sg n (fun i => f i + g i) = sg n f + sg n g
  | 0 => (by decide : (0 : Int32) = 0 + 0)
  | n + 1 => by
    show sg n (fun i => f i + g i) + (f n + g n) = (sg n f + f n) + (sg n g + g n)
    rw [sg_add n]
    rw [Int32.add_assoc, Int32.add_assoc, ← Int32.add_assoc (sg n g) (f n) (g n), Int32.add_comm (sg n g) (f n), Int32.add_assoc]
theorem sg_0 : ∀ (n : Nat), sg n (fun _ => 0) = 0
  | 0 => rfl
  | n + 1 => by
    show sg n (fun _ => 0) + 0 = 0
    rw [sg_0 n]
    rfl
theorem sg_comm {f : Nat → Nat → Int32} (m : Nat) : ∀ (n : Nat), sg n (fun i => sg m (fun j => f i j)) = sg m (fun j => sg n (fun i => f i j))
  | 0 => (sg_0 m).symm
  | n + 1 => by
    show sg n (fun i => sg m (fun j => f i j)) + sg m (fun j => f n j) = sg m (fun j => sg n (fun i => f i j) + f n j)
    rw [sg_comm m n, sg_add]
theorem sg_one {k : Nat} {v : Int32} : ∀ (n : Nat), sg n (fun i => if i = k then v else 0) = if k < n then v else 0
  | 0 => by rw [if_neg (by omega)]; rfl
  | n + 1 => by
    show sg n (fun i => if i = k then v else 0) + (if n = k then v else 0) = _
    rw [sg_one n]
    by_cases h : n = k
    · rw [if_neg (by omega), if_pos h, if_pos (by omega), Int32.zero_add]
    · rw [if_neg h, Int32.add_zero]
      by_cases h2 : k < n
      · rw [if_pos h2, if_pos (by omega)]
      · rw [if_neg h2, if_neg (by omega)]
/-- a loop that adds up -/
theorem lp_sum {lp : Nat → Int32 → Int32 → Int32} {f : Nat → Int32} {n : Nat} (hn : n < 2147483647) (h0 : ∀ s i, lp 0 s i = s) (hs : ∀ m s i, i < n → lp (m + 1) s (nI i) = lp m (s + f i) (nI i + 1)) : ∀ (m i : Nat) (s : Int32), i + m = n → s = sg i f → lp m s (nI i) = sg n f
  | 0, i, s, h, e => by
    rw [h0, e, show i = n by omega]
  | m + 1, i, s, h, e => by
    rw [hs m s i (by omega), nJ_1 (by omega)]
    exact lp_sum hn h0 hs m (i + 1) (s + f i) (by omega) (by rw [e]; rfl)
