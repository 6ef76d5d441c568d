/-! a RANKING: how many steps; both sides keep it -/
theorem sh_64u : ∀ k, k < 6 → ((nI k * 6).toInt64.toUInt64 &&& Int64.toUInt64 63).toBitVec % 64 = BitVec.ofNat 64 (6 * k) := by decide +kernel
theorem b32_63 {g : Nat} : b32 63 g = decide (g < 6) := by
  by_cases h : g < 32
  · exact (by decide +kernel : ∀ g, g < 32 → b32 63 g = decide (g < 6)) g h
  · rw [b32_ge (by omega), decide_eq_false (by omega)]
theorem ahead_b {l : List Int64} {x y : Int32} {i : Nat} (hy : y.toInt = (i : Int)) (hi : i < 6) (g : Nat) : b32 (kt_aheadOf l x y) g = (decide (g < 6) && b64 (l.getD x.toInt.toNat 0) (6 * i + g)) := by
  unfold kt_aheadOf
  rw [b32_and, b32_63, Bool.and_comm, nJ_of hy]
  by_cases h : g < 6
  · have e : (BitVec.ofNat 64 (6 * i)).toNat = 6 * i := by rw [BitVec.toNat_ofNat]; omega
    rw [decide_eq_true h, Bool.true_and, Bool.true_and]
    unfold b32 b64
    rw [Int64.toBitVec_toInt32, BitVec.getLsbD_signExtend, decide_eq_true (show g < 32 by omega), Bool.true_and, if_pos (show g < 64 by omega)]
    show (((l.getD x.toInt.toNat 0).toUInt64 >>> ((nI i * 6).toInt64.toUInt64 &&& Int64.toUInt64 63)).toBitVec).getLsbD g = _
    rw [UInt64.toBitVec_shiftRight, sh_64u i hi, BitVec.ushiftRight_eq', BitVec.getLsbD_ushiftRight, e]
    rfl
  · rw [decide_eq_false h, Bool.false_and, Bool.false_and]
/-- how many values -/
theorem vals {P : Nat → Nat} : ∀ (n : Nat), (∀ i, i < n → P i < 6) → cnt 6 (fun v => exv n (fun i => decide (P i = v))) = cnt n (fun i => !(exv i (fun j => decide (P i = P j))))
  | 0, _ => cnt_0 6
  | n + 1, h => by
    show cnt 6 (fun v => exv n (fun i => decide (P i = v)) || decide (P n = v)) = cnt n (fun i => !(exv i (fun j => decide (P i = P j)))) + (if (!(exv n (fun j => decide (P n = P j)))) = true then 1 else 0)
    rw [← vals n (fun i hi => h i (by omega))]
    have sw : exv n (fun j => decide (P n = P j)) = exv n (fun i => decide (P i = P n)) := congrArg _ (funext fun j => decide_eq_decide.mpr ⟨fun z => z.symm, fun z => z.symm⟩)
    rw [sw]
    cases e : exv n (fun i => decide (P i = P n)) with
    | true =>
      rw [if_neg (by decide), Nat.add_zero]
      refine cnt_congr 6 (fun v _ => ?_)
      by_cases c : P n = v
      · subst c
        rw [e]
        rfl
      · rw [decide_eq_false c, Bool.or_false]
    | false =>
      rw [if_pos (by decide)]
      exact cnt_1 (k := P n) 6 (h n (by omega)) e (by rw [decide_eq_true rfl, Bool.or_true]) (fun v _ hv => by rw [decide_eq_false (show ¬ P n = v from fun z => hv z.symm), Bool.or_false])
section STP
variable {l : List Int64} {x : Int32} {Mn : Nat} {P : Nat → Nat}
theorem st_18 (ha : ∀ i, i < Mn → ∀ j, j < Mn → (kt_aheadOf l x (nI i) = kt_aheadOf l x (nI j) ↔ P i = P j)) (hM : Mn ≤ 6) {i : Nat} (hi : i < Mn) : ∀ (m j : Nat) (y : Int32), j + m = i → (kt_steps_18 l x (nI i) m y (nI j) = 0 ↔ y = 0 ∧ ∀ q, j ≤ q → q < i → P i ≠ P q)
  | 0, j, y, h => ⟨fun z => ⟨z, fun q h1 h2 => by omega⟩, fun z => z.1⟩
  | m + 1, j, y, h => by
    unfold kt_steps_18
    have o1 : (y ||| 1 = 0) ↔ False := by
      constructor
      · intro z
        have q := b32_or y 1 0
        rw [z, b32_0, b32_one, decide_eq_true rfl, Bool.or_true] at q
        cases q
      · exact False.elim
    have o0 : y ||| 0 = y := b32_ext fun g _ => by rw [b32_or, b32_0, Bool.or_false]
    rw [nJ_1 (by omega), o0]
    by_cases c : kt_aheadOf l x (nI i) = kt_aheadOf l x (nI j)
    · rw [if_pos c, st_18 ha hM hi m (j + 1) _ (by omega)]
      constructor
      · rintro ⟨z, -⟩
        exact (o1.mp z).elim
      · rintro ⟨-, z⟩
        exact absurd ((ha i hi j (by omega)).mp c) (z j (Nat.le_refl _) (by omega))
    · rw [if_neg c, st_18 ha hM hi m (j + 1) _ (by omega)]
      refine ⟨fun z => ⟨z.1, fun q h1 h2 => ?_⟩, fun z => ⟨z.1, fun q h1 h2 => z.2 q (by omega) h2⟩⟩
      by_cases e : q = j
      · subst e
        exact fun w => c ((ha i hi q (by omega)).mpr w)
      · exact z.2 q (by omega) h2
theorem st_4 (ha : ∀ i, i < Mn → ∀ j, j < Mn → (kt_aheadOf l x (nI i) = kt_aheadOf l x (nI j) ↔ P i = P j)) (hM : Mn ≤ 6) : ∀ (m i : Nat), i + m = Mn → kt_steps_4 l x m (nI (cnt i (fun i => !(exv i (fun j => decide (P i = P j)))))) (nI i) = nI (cnt Mn (fun i => !(exv i (fun j => decide (P i = P j)))))
  | 0, i, h => by
    have e : i = Mn := by omega
    subst e
    rfl
  | m + 1, i, h => by
    have q := st_18 ha hM (show i < Mn by omega) i 0 0 (by omega)
    have cn := cnt_n (f := fun i => !(exv i (fun j => decide (P i = P j)))) i
    unfold kt_steps_4
    rw [nJ_ix (n := i) (by omega), nJ_1 (n := i) (by omega), nJ_1 (by omega)]
    have q' : kt_steps_18 l x (nI i) i 0 0 = 0 ↔ exv i (fun j => decide (P i = P j)) = false := by
      refine q.trans ⟨fun z => ?_, fun z => ⟨rfl, fun r _ h2 e => ?_⟩⟩
      · cases e : exv i (fun j => decide (P i = P j)) with
        | false => rfl
        | true =>
          obtain ⟨r, h1, h2⟩ := (exv_iff i).mp e
          exact absurd (of_decide_eq_true h2) (z.2 r (by omega) h1)
      · have := (exv_iff (f := fun j => decide (P i = P j)) i).mpr ⟨r, h2, decide_eq_true e⟩
        rw [this] at z
        cases z
    have sx : cnt (i + 1) (fun i => !(exv i (fun j => decide (P i = P j)))) = cnt i (fun i => !(exv i (fun j => decide (P i = P j)))) + (if (!(exv i (fun j => decide (P i = P j)))) = true then 1 else 0) := rfl
    have r := st_4 ha hM m (i + 1) (by omega)
    cases e : exv i (fun j => decide (P i = P j)) with
    | true =>
      rw [if_neg (fun z => by rw [q'.mp z] at e; cases e)]
      rw [sx, e, if_neg (by decide), Nat.add_zero] at r
      exact r
    | false =>
      rw [if_pos (q'.mpr e)]
      rw [sx, e, if_pos (by decide)] at r
      exact r
end STP
