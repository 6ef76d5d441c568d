/-! bits of numbers; who is told -/
theorem vt1 {t : Int32} {k : Nat} (hk : k < 32) (h : b32 t k = true) : ¬ ((t >>> (nI k &&& 31)) &&& 1) = 0 := by
  rw [tst (nI_toInt (n := k) (by omega)) hk, if_pos h]
  decide
theorem vt0 {t : Int32} {k : Nat} (hk : k < 32) (h : b32 t k = false) : ((t >>> (nI k &&& 31)) &&& 1) = 0 := by
  rw [tst (nI_toInt (n := k) (by omega)) hk, if_neg (by rw [h]; decide)]
theorem vh1 {t : Int32} {k : Nat} (hk : k < 32) (h : b32 t k = true) : ¬ km_has t (nI k) = 0 := by
  unfold km_has
  rw [tst (nI_toInt (n := k) (by omega)) hk, if_pos h, if_pos rfl]
  decide
theorem vh0 {t : Int32} {k : Nat} (hk : k < 32) (h : b32 t k = false) : km_has t (nI k) = 0 := by
  unfold km_has
  rw [tst (nI_toInt (n := k) (by omega)) hk, if_neg (show ¬ b32 t k = true by rw [h]; decide), if_neg (show ¬ (0 : Int32) = 1 by decide)]
theorem sg_s {n : Nat} {f : Nat → Int32} (h : f n = 0) : sg (n + 1) f = sg n f := by
  show sg n f + f n = sg n f
  rw [h, Int32.add_zero]
theorem told2 {t : Int32} {now : List Int32} (ht : t = now.getD 144 0) {g : Nat} (hg : g < 12) : (kt_isTold t (nI g) = 0 ∧ km_isGuest now (nI g) = 0 ∧ b32 t g = false) ∨ (kt_isTold t (nI g) = 1 ∧ km_isGuest now (nI g) = 1 ∧ b32 t g = true) := by
  have e := told_same ht (nI g)
  rcases kt_told t (nI g) with ⟨p, q⟩ | ⟨p, q⟩
  · exact Or.inl ⟨p, by rw [← e, p], eq_false_of_ne_true (fun z => q ((tq_n hg).mpr z))⟩
  · exact Or.inr ⟨p, by rw [← e, p], (tq_n hg).mp q⟩
theorem b32_not {x : Int32} {k : Nat} (hk : k < 32) : b32 (x ^^^ (-1)) k = !b32 x k := by
  rw [b32_xor, b32_m1 hk]
  cases b32 x k <;> rfl
theorem b32_bitn {j k : Nat} (hj : j < 32) (hk : k < 32) : b32 ((1 : Int32) <<< (nI j &&& 31)) k = decide (k = j) := b32_shl (nI_toInt (n := j) (by omega)) hj hk
theorem b32_n {s k : Nat} (hk : k < 32) : b32 (nI s) k = s.testBit k := by
  unfold b32
  show (BitVec.ofNat 32 s).getLsbD k = _
  rw [BitVec.getLsbD_ofNat, decide_eq_true hk, Bool.true_and]
theorem nI_plus (a b : Nat) : nI a + nI b = nI (a + b) := by
  refine Int32.toBitVec_inj.mp ?_
  rw [Int32.toBitVec_add]
  exact (BitVec.ofNat_add a b).symm
