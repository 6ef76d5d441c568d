/-! the law's text: rules and the law, the reference reads as the machine does; law's answers alike -/
section ML
variable {N : Nat} {tb : List Int32}
abbrev R14t : Type := Int32 × Int32 × Int32 × Int32 × Int32 × Int32 × Int32 × Int32 × List Int32 × List Int32 × List Int32 × List Int32 × List Int32 × List Int32
/-- how a rule ends -/
noncomputable def oR (N p r : Nat) (fl : Int32) (spec : Nat ⊕ Int32) (R : R14t) : Prop := (∃ q c1 : Nat, spec = .inl q ∧ p < q ∧ q ≤ N ∧ R.1 = 1 ∧ R.2.1 = nI q ∧ R.2.2.1 = fl ∧ R.2.2.2.2.2.1 = nI c1 ∧ c1 ≤ q ∧ R.2.2.2.2.2.2.2.1 = nI (r + 1) ∧ R.2.2.2.2.2.2.2.2.2.1.length = 260) ∨ (spec = .inr R.2.2.1 ∧ R.1 = 0)
theorem m_rul (hN : N ≤ 240) {f : Nat} (hf : 300 ≤ f) {p c r : Nat} {fl n12 x13 x15 : Int32} {a72 a73 a74 a75 a76 a77 : List Int32} {R : R14t} (hp : p ≤ N) (hc : c ≤ p) (hr : r ≤ 16) (h260 : a73.length = 260) (hR : R = km_readsRule f (nI p) (nI N) fl n12 x13 (nI c) x15 (nI r) tb a72 a73 a74 a75 a76 a77) : oR N p r fl (uS (sG tb N) N p r) R := by
  have r16 : nI r = 16 ↔ r = 16 := ⟨fun z => nJ_inj (m := r) (n := 16) (by omega) (by omega) z, fun z => by rw [z]; rfl⟩
  unfold km_readsRule at hR
  rw [lt_e, he_s hN hp] at hR
  have no4 : (sG tb N p = 101 ∨ sG tb N p = 107 ∨ sG tb N p = 100 ∨ sG tb N p = 120) → r = 16 → R = ((km_wrongAt 4 (nI p)).1, nI p, (km_wrongAt 4 (nI p)).2, n12, x13, nI c, x15, nI r, a72, a73, a74, a75, a76, a77) → oR N p r fl (uS (sG tb N) N p r) R := fun h1 h2 hR => by
    subst hR
    exact Or.inr ⟨(if_pos h1).trans (if_pos h2), rfl⟩
  -- the condition
  have con : ∀ (q c0 : Nat) (fl' n12' o' w' : Int32) (b72 b73 e76 : List Int32) (x : Int32) (Z : R9), p < q → q ≤ N → c0 ≤ q → b73.length = 260 → fl' = fl → uS (sG tb N) N p r = cS (sG tb N) N q → Z = km_readsCondition f (nI q) (nI N) fl' n12' o' (nI c0) w' tb b72 b73 → R = (if Z.1 = 0 then (0, Z.2.1, Z.2.2.1, Z.2.2.2.1, Z.2.2.2.2.1, Z.2.2.2.2.2.1, Z.2.2.2.2.2.2.1, nI r, Z.2.2.2.2.2.2.2.1, Z.2.2.2.2.2.2.2.2, (a74.set (nI r).toInt.toNat x), (a75.set (nI r).toInt.toNat (nI c)), e76, a77) else (1, Z.2.1, Z.2.2.1, Z.2.2.2.1, Z.2.2.2.2.1, Z.2.2.2.2.2.1, Z.2.2.2.2.2.2.1, (nI r + 1), Z.2.2.2.2.2.2.2.1, Z.2.2.2.2.2.2.2.2, (a74.set (nI r).toInt.toNat x), (a75.set (nI r).toInt.toNat (nI c)), e76, (a77.set (nI r).toInt.toNat Z.2.2.2.2.2.1))) → oR N p r fl (uS (sG tb N) N p r) R := fun q c0 fl' n12' o' w' b72 b73 e76 x Z h1 h2 h3 h4 h5 h6 hZ hq => by
    subst h5
    rcases m_con hN hf h2 h3 h4 hZ with ⟨w, c1, g1, g2, g3, g4, g5, g6, g7, g8, g9⟩ | ⟨g1, g2⟩
    · rw [if_neg (by rw [g4]; decide), nJ_1 (n := r) (by omega)] at hq
      have e9 : R.2.2.2.2.2.2.2.2.2.1 = Z.2.2.2.2.2.2.2.2 := (congrArg (fun z : R14t => z.2.2.2.2.2.2.2.2.2.1) hq).trans rfl
      exact Or.inl ⟨w, c1, h6.trans g1, by omega, g3, congrArg (fun z : R14t => z.1) hq, (congrArg (fun z : R14t => z.2.1) hq).trans g5, (congrArg (fun z : R14t => z.2.2.1) hq).trans g6, (congrArg (fun z : R14t => z.2.2.2.2.2.1) hq).trans g7, g8, congrArg (fun z : R14t => z.2.2.2.2.2.2.2.1) hq, by rw [e9]; exact g9⟩
    · rw [if_pos g2] at hq
      have e1 : R.2.2.1 = Z.2.2.1 := (congrArg (fun z : R14t => z.2.2.1) hq).trans rfl
      exact Or.inr ⟨by rw [e1]; exact h6.trans g1, congrArg (fun z : R14t => z.1) hq⟩
  -- a letter with an amount
  have amt : (sG tb N p = 101 ∨ sG tb N p = 107 ∨ sG tb N p = 100) → ¬ r = 16 → ∀ S : R9, S = km_readsSum f (nI p + 1) (nI N) fl n12 0 (nI c) 0 tb a72 a73 → R = (if S.1 = 0 then (0, S.2.1, S.2.2.1, S.2.2.2.1, S.2.2.2.2.1, S.2.2.2.2.2.1, S.2.2.2.2.2.2.1, nI r, S.2.2.2.2.2.2.2.1, S.2.2.2.2.2.2.2.2, (a74.set (nI r).toInt.toNat (sG tb N p)), (a75.set (nI r).toInt.toNat (nI c)), a76, a77) else (lt (km_readsCondition f S.2.1 (nI N) S.2.2.1 S.2.2.2.1 S.2.2.2.2.1 S.2.2.2.2.2.1 S.2.2.2.2.2.2.1 tb S.2.2.2.2.2.2.2.1 S.2.2.2.2.2.2.2.2) (fun g781 => (if g781.1 = 0 then (0, g781.2.1, g781.2.2.1, g781.2.2.2.1, g781.2.2.2.2.1, g781.2.2.2.2.2.1, g781.2.2.2.2.2.2.1, nI r, g781.2.2.2.2.2.2.2.1, g781.2.2.2.2.2.2.2.2, (a74.set (nI r).toInt.toNat (sG tb N p)), (a75.set (nI r).toInt.toNat (nI c)), (a76.set (nI r).toInt.toNat S.2.2.2.2.2.1), a77) else (1, g781.2.1, g781.2.2.1, g781.2.2.2.1, g781.2.2.2.2.1, g781.2.2.2.2.2.1, g781.2.2.2.2.2.2.1, (nI r + 1), g781.2.2.2.2.2.2.2.1, g781.2.2.2.2.2.2.2.2, (a74.set (nI r).toInt.toNat (sG tb N p)), (a75.set (nI r).toInt.toNat (nI c)), (a76.set (nI r).toInt.toNat S.2.2.2.2.2.1), (a77.set (nI r).toInt.toNat g781.2.2.2.2.2.1)))))) → oR N p r fl (uS (sG tb N) N p r) R := fun hl h16 S hS hR => by
    have pl := in_of (s := sG tb N) sG_e (p := p) (fun z => by rw [z] at hl; rcases hl with d | d | d <;> exact absurd d (by decide))
    have n120 : ¬ sG tb N p = 120 := fun z => by rw [z] at hl; rcases hl with d | d | d <;> exact absurd d (by decide)
    have U : uS (sG tb N) N p r = (match rS (sG tb N) N false (p + 1) 0 0 with | .inr e => .inr e | .inl q => cS (sG tb N) N q) := (if_pos (by rcases hl with d | d | d; exact Or.inl d; exact Or.inr (Or.inl d); exact Or.inr (Or.inr (Or.inl d)))).trans ((if_neg h16).trans (if_neg n120))
    rw [nJ_1 (n := p) (by omega)] at hS
    rcases m_sum (tb := tb) (e := 0) (T := []) (o := 0) hN hf (Or.inl rfl) (p := p + 1) (by omega) (by omega) (by show c + 0 + 0 ≤ p + 1; omega) (Nat.zero_le _) trivial h260 hS with ⟨q, c1, h1, h2, h3, h4, h5, h6, h7, h8, h9, h10⟩ | ⟨h1, h2⟩
    · obtain ⟨-, q1, q2⟩ := rS_le sG_e (by omega) h1
      have q2 := q2 rfl
      rw [h1] at U
      rw [if_neg (by rw [h2]; decide), lt_e, h3, h6] at hR
      have h7 : c1 + 0 + 0 ≤ q := h7
      exact con q c1 _ _ _ _ _ _ _ _ _ (by omega) q1 (by omega) h10 h4 U rfl hR
    · rw [if_pos h2] at hR
      rw [h1] at U
      have e1 : R.2.2.1 = S.2.2.1 := (congrArg (fun z : R14t => z.2.2.1) hR).trans rfl
      exact Or.inr ⟨by rw [e1]; exact U, congrArg (fun z : R14t => z.1) hR⟩
  by_cases l1 : sG tb N p = 101
  · rw [if_pos l1] at hR
    by_cases c16 : r = 16
    · rw [if_pos (r16.mpr c16), lt_e] at hR
      exact no4 (Or.inl l1) c16 hR
    · rw [if_neg (fun z => c16 (r16.mp z)), lt_e] at hR
      exact amt (Or.inl l1) c16 _ rfl hR
  · rw [if_neg l1] at hR
    by_cases l2 : sG tb N p = 107
    · rw [if_pos l2] at hR
      by_cases c16 : r = 16
      · rw [if_pos (r16.mpr c16), lt_e] at hR
        exact no4 (Or.inr (Or.inl l2)) c16 hR
      · rw [if_neg (fun z => c16 (r16.mp z)), lt_e] at hR
        exact amt (Or.inr (Or.inl l2)) c16 _ rfl hR
    · rw [if_neg l2] at hR
      by_cases l3 : sG tb N p = 100
      · rw [if_pos l3] at hR
        by_cases c16 : r = 16
        · rw [if_pos (r16.mpr c16), lt_e] at hR
          exact no4 (Or.inr (Or.inr (Or.inl l3))) c16 hR
        · rw [if_neg (fun z => c16 (r16.mp z)), lt_e] at hR
          exact amt (Or.inr (Or.inr l3)) c16 _ rfl hR
      · rw [if_neg l3] at hR
        by_cases l4 : sG tb N p = 120
        · have pl := in_of (s := sG tb N) sG_e (p := p) (by rw [l4]; decide)
          rw [if_pos l4] at hR
          by_cases c16 : r = 16
          · rw [if_pos (r16.mpr c16), lt_e] at hR
            exact no4 (Or.inr (Or.inr (Or.inr l4))) c16 hR
          · rw [if_neg (fun z => c16 (r16.mp z)), lt_e, nJ_1 (n := p) (by omega)] at hR
            exact con (p + 1) c _ _ _ _ _ _ _ _ _ (by omega) (by omega) (by omega) h260 rfl ((if_pos (Or.inr (Or.inr (Or.inr l4)))).trans ((if_neg c16).trans (if_pos l4))) rfl hR
        · rw [if_neg l4, lt_e] at hR
          subst hR
          exact Or.inr ⟨if_neg (fun z => by rcases z with z | z | z | z; exact l1 z; exact l2 z; exact l3 z; exact l4 z), rfl⟩
/-- the answer by what the loop leaves -/
noncomputable def ansL (T : R14t) : Int32 := if T.1 = 0 then T.2.2.1 else T.2.2.2.2.2.2.2.1
theorem b255 {x : Int32} : ∃ n, n < 256 ∧ x &&& 255 = nI n := by
  have l : (x &&& 255).toBitVec.toNat < 256 := by
    rw [Int32.toBitVec_and, BitVec.toNat_and]
    exact Nat.lt_of_le_of_lt Nat.and_le_right (by decide)
  exact ⟨_, l, nJ_of (BitVec.toInt_eq_toNat_of_lt (by omega))⟩
theorem sG_n {p : Nat} (hp : p < N) : ¬ sG tb N p = -1 := by
  unfold sG
  rw [if_pos hp]
  obtain ⟨n, h1, h2⟩ := b255 (x := tb.getD p 0)
  rw [h2]
  exact nI_m1 (by omega)
theorem l46_0 {f m : Nat} {x f9 f11 f12 f13 f14 f15 f16 : Int32} {a72 a73 a74 a75 a76 a77 : List Int32} : km_law_46 f x tb m 0 f9 f11 f12 f13 f14 f15 f16 a72 a73 a74 a75 a76 a77 = (0, f9, f11, f12, f13, f14, f15, f16, a72, a73, a74, a75, a76, a77) := by
  cases m with
  | zero => rw [e0_km_law_46]
  | succ m => rw [e_km_law_46, if_pos rfl]
theorem m_law (hN : N ≤ 240) {f : Nat} (hf : 300 ≤ f) : ∀ (m k r p c : Nat) (fl n12 x13 x15 : Int32) (a72 a73 a74 a75 a76 a77 : List Int32) (T : R14t), N + 1 - p ≤ m → r + k = 17 → r ≤ 16 → p ≤ N → c ≤ p → a73.length = 260 → T = km_law_46 f (nI N) tb m 1 (nI p) fl n12 x13 (nI c) x15 (nI r) a72 a73 a74 a75 a76 a77 → ansL T = if sG tb N p = -1 then nI r else if sG tb N p = 59 then lS (sG tb N) N k r (p + 1) else eF 1 p := by
  intro m
  induction m with
  | zero =>
    intro k r p c fl n12 x13 x15 a72 a73 a74 a75 a76 a77 T hm hk hr hp
    omega
  | succ m ih =>
    intro k r p c fl n12 x13 x15 a72 a73 a74 a75 a76 a77 T hm hk hr hp hc h260 hT
    have e1 := nI_toInt (n := p) (by omega)
    have e2 := nI_toInt (n := N) (by omega)
    rw [e_km_law_46, if_neg (show ¬ (1 : Int32) = 0 by decide)] at hT
    by_cases pN : p < N
    · rw [if_pos (by omega), lt_e] at hT
      rw [if_neg (sG_n pN)]
      by_cases x : sG tb N p = 59
      · have et : km_takes (nI p) (nI N) fl tb 59 = (1, nI (p + 1), fl) := by
          unfold km_takes
          rw [he_s hN hp, if_pos x, nJ_1 (n := p) (by omega)]
        rw [et, if_neg (show ¬ (1 : Int32) = 0 by decide), lt_e] at hT
        rw [if_pos x]
        obtain ⟨k, rfl⟩ : ∃ k', k = k' + 1 := ⟨k - 1, by omega⟩
        have L : lS (sG tb N) N (k + 1) r (p + 1) = (match uS (sG tb N) N (p + 1) r with | .inr e => e | .inl q => if sG tb N q = -1 then nI (r + 1) else if sG tb N q = 59 then lS (sG tb N) N k (r + 1) (q + 1) else eF 1 q) := rfl
        rw [L]
        have hT : T = (fun Z : R14t => (if Z.1 = 0 then (km_law_46 f (nI N) tb m 0 Z.2.1 Z.2.2.1 Z.2.2.2.1 Z.2.2.2.2.1 Z.2.2.2.2.2.1 Z.2.2.2.2.2.2.1 Z.2.2.2.2.2.2.2.1 Z.2.2.2.2.2.2.2.2.1 Z.2.2.2.2.2.2.2.2.2.1 Z.2.2.2.2.2.2.2.2.2.2.1 Z.2.2.2.2.2.2.2.2.2.2.2.1 Z.2.2.2.2.2.2.2.2.2.2.2.2.1 Z.2.2.2.2.2.2.2.2.2.2.2.2.2) else (km_law_46 f (nI N) tb m 1 Z.2.1 Z.2.2.1 Z.2.2.2.1 Z.2.2.2.2.1 Z.2.2.2.2.2.1 Z.2.2.2.2.2.2.1 Z.2.2.2.2.2.2.2.1 Z.2.2.2.2.2.2.2.2.1 Z.2.2.2.2.2.2.2.2.2.1 Z.2.2.2.2.2.2.2.2.2.2.1 Z.2.2.2.2.2.2.2.2.2.2.2.1 Z.2.2.2.2.2.2.2.2.2.2.2.2.1 Z.2.2.2.2.2.2.2.2.2.2.2.2.2) : R14t)) (km_readsRule f (nI (p + 1)) (nI N) fl n12 x13 (nI c) x15 (nI r) tb a72 a73 a74 a75 a76 a77) := hT
        generalize hZ : km_readsRule f (nI (p + 1)) (nI N) fl n12 x13 (nI c) x15 (nI r) tb a72 a73 a74 a75 a76 a77 = Z at hT
        have hT : T = (if Z.1 = 0 then (km_law_46 f (nI N) tb m 0 Z.2.1 Z.2.2.1 Z.2.2.2.1 Z.2.2.2.2.1 Z.2.2.2.2.2.1 Z.2.2.2.2.2.2.1 Z.2.2.2.2.2.2.2.1 Z.2.2.2.2.2.2.2.2.1 Z.2.2.2.2.2.2.2.2.2.1 Z.2.2.2.2.2.2.2.2.2.2.1 Z.2.2.2.2.2.2.2.2.2.2.2.1 Z.2.2.2.2.2.2.2.2.2.2.2.2.1 Z.2.2.2.2.2.2.2.2.2.2.2.2.2) else (km_law_46 f (nI N) tb m 1 Z.2.1 Z.2.2.1 Z.2.2.2.1 Z.2.2.2.2.1 Z.2.2.2.2.2.1 Z.2.2.2.2.2.2.1 Z.2.2.2.2.2.2.2.1 Z.2.2.2.2.2.2.2.2.1 Z.2.2.2.2.2.2.2.2.2.1 Z.2.2.2.2.2.2.2.2.2.2.1 Z.2.2.2.2.2.2.2.2.2.2.2.1 Z.2.2.2.2.2.2.2.2.2.2.2.2.1 Z.2.2.2.2.2.2.2.2.2.2.2.2.2) : R14t) := hT
        rcases m_rul hN hf (p := p + 1) (by omega) (by omega) hr h260 hZ.symm with ⟨q, c1, h1, h2, h3, h4, h5, h6, h7, h8, h9, h10⟩ | ⟨h1, h2⟩
        · rw [h1]
          have r15 : r < 16 := by
            by_cases w : r = 16
            · rw [w] at h1
              exact (uS_16 h1).elim
            · omega
          rw [if_neg (by rw [h4]; decide), h5, h7, h9] at hT
          exact ih k (r + 1) q c1 _ _ _ _ _ _ _ _ _ _ T (by omega) (by omega) (by omega) h3 h8 h10 hT
        · rw [h1]
          rw [if_pos h2, l46_0] at hT
          subst hT
          exact if_pos rfl
      · have et : km_takes (nI p) (nI N) fl tb 59 = (0, nI p, eF 1 p) := by
          unfold km_takes
          rw [he_s hN hp, if_neg x]
          rfl
        rw [et, if_pos rfl, l46_0] at hT
        rw [if_neg x]
        subst hT
        exact if_pos rfl
    · rw [if_neg (by omega)] at hT
      rw [if_pos (sG_e p (by omega))]
      subst hT
      exact if_neg (show ¬ (1 : Int32) = 0 by decide)
theorem law_pure {n : Int32} {a2 tb : List Int32} (h2 : a2.length = 260) (hR : R2v n a2 n tb) {f : Nat} (hf : 300 ≤ f) {g2 g3 g4 g5 g6 g7 g8 g9 : Int32} {k9 k10 k11 k12 k13 k14 k15 k16 k17 : Int32} {a44 a45 a46 a47 a48 a49 a54 a55 a56 a57 a58 a59 a72 a73 a74 a75 a76 a77 a78 a79 a80 a81 a82 : List Int32} (h260 : a73.length = 260) {x : Int32} : (kc_law f n g2 g3 g4 g5 g6 g7 g8 g9 a2 a44 a45 a46 a47 a48 a49 a54 a55 a56 a57 a58 a59 x).1 = (km_law f n k9 k10 k11 k12 k13 k14 k15 k16 k17 tb a72 a73 a74 a75 a76 a77 a78 a79 a80 a81 a82 x).1 := by
  have A : kx_has n x 1 240 = 0 ∨ (¬ km_in x 1 240 = 0 ∧ ¬ n.toInt < x.toInt ∧ ¬ kx_has n x 1 240 = 0) := by
    unfold kx_has
    rw [within_in]
    by_cases c : km_in x 1 240 = 0
    · rw [if_pos c]
      exact Or.inl rfl
    · rw [if_neg c]
      by_cases d : n.toInt < x.toInt
      · rw [if_pos d]
        exact Or.inl rfl
      · rw [if_neg d]
        exact Or.inr ⟨c, d, by decide⟩
  have B : kx_has n x 1 240 = 0 → (km_law f n k9 k10 k11 k12 k13 k14 k15 k16 k17 tb a72 a73 a74 a75 a76 a77 a78 a79 a80 a81 a82 x).1 = -1 := fun h => by
    unfold kx_has at h
    rw [within_in] at h
    unfold km_law
    rw [lt_e]
    by_cases c : km_in x 1 240 = 0
    · rw [if_pos c]
    · rw [if_neg c] at h ⊢
      by_cases d : n.toInt < x.toInt
      · rw [if_pos d]
      · rw [if_neg d] at h
        exact absurd h (by decide)
  rcases A with a | ⟨a1, a3, a4⟩
  · rw [B a]
    unfold kc_law
    rw [lt_e, if_pos a]
  · have e1 : (1 : Int32).toInt = 1 := rfl
    have e240 : (240 : Int32).toInt = 240 := rfl
    have hx := a1
    rw [in_0, e1, e240, Decidable.not_not] at hx
    obtain ⟨N, rfl, hN1, hN⟩ : ∃ N : Nat, x = nI N ∧ 1 ≤ N ∧ N ≤ 240 := ⟨x.toInt.toNat, nJ_of (by omega), by omega, by omega⟩
    have eN := nI_toInt (n := N) (by omega)
    have hs : cG a2 N = sG tb N := funext fun p => by
      unfold cG sG
      by_cases c : p < N
      · rw [if_pos c, if_pos c]
        exact hR.2 p (by omega)
      · rw [if_neg c, if_neg c]
    have hb : ∀ p, p < N → ∃ m, m < 256 ∧ a2.getD p 0 = nI m := fun p hp => by
      rw [hR.2 p (by omega)]
      exact b255
    -- the class
    have C : (kc_law f n g2 g3 g4 g5 g6 g7 g8 g9 a2 a44 a45 a46 a47 a48 a49 a54 a55 a56 a57 a58 a59 (nI N)).1 = lS (cG a2 N) N 17 0 0 := by
      have q := c_law h2 hN hb (f := f) (by omega) 17 0 0 0 0 a54 a55 a56 a57 a58 a59 _ rfl (by omega) (Nat.zero_le _) rfl
      rw [if_pos rfl] at q
      unfold kc_law
      rw [lt_e, if_neg a4, lt_e, lt_e]
      refine Eq.trans ?_ q
      show (if 0 < (kr_readLaw f (kx_open (nI N)).1 (kx_open (nI N)).2.1 (kx_open (nI N)).2.2 a2 a54 a55 a56 a57 a58 a59).1.toInt then _ else _ : Int32 × _).1 = _
      split <;> rfl
    rw [C, hs]
    -- the reference
    unfold km_law
    rw [lt_e, if_neg a1, if_neg a3, lt_e, lt_e]
    generalize hZ : km_readsRule f 0 (nI N) k11 k12 k13 0 k15 0 tb a72 a73 a74 a75 a76 a77 = Z
    have Lq : lS (sG tb N) N 17 0 0 = (match uS (sG tb N) N 0 0 with | .inr e => e | .inl q => if sG tb N q = -1 then nI (0 + 1) else if sG tb N q = 59 then lS (sG tb N) N 16 (0 + 1) (q + 1) else eF 1 q) := rfl
    have fin : ∀ T : R14t, T = km_law_46 f (nI N) tb f Z.1 Z.2.1 Z.2.2.1 Z.2.2.2.1 Z.2.2.2.2.1 Z.2.2.2.2.2.1 Z.2.2.2.2.2.2.1 Z.2.2.2.2.2.2.2.1 Z.2.2.2.2.2.2.2.2.1 Z.2.2.2.2.2.2.2.2.2.1 Z.2.2.2.2.2.2.2.2.2.2.1 Z.2.2.2.2.2.2.2.2.2.2.2.1 Z.2.2.2.2.2.2.2.2.2.2.2.2.1 Z.2.2.2.2.2.2.2.2.2.2.2.2.2 → lS (sG tb N) N 17 0 0 = ansL T := fun T hT => by
      rw [Lq]
      rcases m_rul (tb := tb) hN hf (p := 0) (c := 0) (r := 0) (Nat.zero_le _) (Nat.zero_le _) (by omega) h260 hZ.symm with ⟨q, c1, h1, h2, h3, h4, h5, h6, h7, h8, h9, h10⟩ | ⟨h1, h2⟩
      · rw [h1]
        rw [h4, h5, h7, h9] at hT
        exact (m_law hN hf f 16 (0 + 1) q c1 _ _ _ _ _ _ _ _ _ _ T (by omega) (by omega) (by omega) h3 h8 h10 hT).symm
      · rw [h1]
        rw [h2, l46_0] at hT
        subst hT
        exact (if_pos rfl).symm
    rw [fin _ rfl]
    generalize km_law_46 f (nI N) tb f Z.1 Z.2.1 Z.2.2.1 Z.2.2.2.1 Z.2.2.2.2.1 Z.2.2.2.2.2.1 Z.2.2.2.2.2.2.1 Z.2.2.2.2.2.2.2.1 Z.2.2.2.2.2.2.2.2.1 Z.2.2.2.2.2.2.2.2.2.1 Z.2.2.2.2.2.2.2.2.2.2.1 Z.2.2.2.2.2.2.2.2.2.2.2.1 Z.2.2.2.2.2.2.2.2.2.2.2.2.1 Z.2.2.2.2.2.2.2.2.2.2.2.2.2 = T
    unfold ansL
    by_cases t0 : T.1 = 0
    · rw [if_pos t0, if_pos t0]
    · rw [if_neg t0, if_neg t0, lt_e, lt_e]
end ML
section ANML
variable {as : List Int32} {hp hp1 hp2 : sm_H} {r1 r2 : Int32}
theorem an_law (hl : as.length = 1) (hI : ivH IV hp) (hR : R2 hp) (m1 : EM 400 19 (.ref 0 :: as.map Value.int) hp (some (.int r1)) hp1) (hI1 : ivH IV hp1) (m2 : EM 400 151 (.ref 67 :: as.map Value.int) hp1 (some (.int r2)) hp2) : r1 = r2 := by
  obtain ⟨x, rfl⟩ := ln1 hl
  obtain ⟨N1, e1⟩ := u_kc_law hI m1
  obtain ⟨N2, e2⟩ := u_km_law hI1 m2
  obtain ⟨e1, h1⟩ := e1 (N1 + N2 + 300) (by omega)
  obtain ⟨e2, -⟩ := e2 (N1 + N2 + 300) (by omega)
  have w : exA hp1 71 = exA hp 71 := by rw [h1]; rfl
  have w8 : exF hp1 67 8 = exF hp 1 1 := by
    have q : exF hp1 67 8 = exF hp 67 8 := by rw [h1]; rfl
    rw [q]
    exact hR.1.symm
  rw [e1, e2, w, w8]
  exact law_pure (iv_len (k := 2) hI rfl (by decide)) ⟨rfl, hR.2⟩ (by omega) (iv_len (k := 73) hI1 rfl (by decide))
end ANML
