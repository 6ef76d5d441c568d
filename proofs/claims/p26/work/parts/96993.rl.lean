/-! a RANKING is read on both sides in lock step: the link -/
theorem sh_64 : ∀ k, k < 6 → ((nI k * 6).toInt64 &&& 63).toBitVec.smod 64 = BitVec.ofNat 64 (6 * k) := by decide +kernel
theorem b64_ge {x : Int64} {g : Nat} (h : 64 ≤ g) : b64 x g = false := BitVec.getLsbD_of_ge _ _ h
theorem b64_shl {y x : Int32} {k : Nat} (hx : x.toInt = (k : Int)) (hk : k < 6) (hy : ∀ g, 6 ≤ g → b32 y g = false) (t : Nat) : b64 (y.toInt64 <<< ((x * 6).toInt64 &&& 63)) t = (decide (6 * k ≤ t) && b32 y (t - 6 * k)) := by
  rw [nJ_of hx]
  have e : (BitVec.ofNat 64 (6 * k)).toNat = 6 * k := by rw [BitVec.toNat_ofNat]; omega
  by_cases ht : t < 64
  · unfold b64 b32
    rw [Int64.toBitVec_shiftLeft, sh_64 k hk, BitVec.shiftLeft_eq', BitVec.getLsbD_shiftLeft, e, Int32.toBitVec_toInt64, BitVec.getLsbD_signExtend]
    by_cases h : 6 * k ≤ t
    · rw [decide_eq_true ht, decide_eq_false (show ¬ t < 6 * k by omega), decide_eq_true (show t - 6 * k < 64 by omega), decide_eq_true h]
      by_cases h2 : t - 6 * k < 32
      · rw [if_pos h2]
        rfl
      · rw [if_neg h2]
        have m : y.toBitVec.msb = false := by
          rw [BitVec.msb_eq_getLsbD_last]
          exact hy 31 (by omega)
        have q := hy (t - 6 * k) (by omega)
        unfold b32 at q
        rw [m, q]
        rfl
    · rw [decide_eq_true (show t < 6 * k by omega), decide_eq_false h]
      simp
  · rw [b64_ge (by omega), hy (t - 6 * k) (by omega), Bool.and_false]
theorem b32_see {y x : Int32} {k : Nat} (hx : x.toInt = (k : Int)) (hk : k < 32) : b32 (y ||| ((1 : Int32) <<< (x &&& 31))) = fun i => b32 y i || decide (i = k) := funext fun i => by
  rw [b32_or]
  by_cases h : i < 32
  · rw [b32_shl hx hk h]
  · rw [b32_ge (x := (1 : Int32) <<< (x &&& 31)) (by omega), decide_eq_false (show ¬ i = k by omega)]
/-- both sides after k letters -/
noncomputable def RL (Mn k : Nat) (y1 : Int64) (y3 y4 : Int32) (sn pn : Nat) (c : List Int32) (P : Nat → Nat) : Prop := JR Mn k (b32 y3) (b32 y4) (b64 y1) pn sn P ∧ c.length = 6 ∧ ∀ i, b32 y3 i = true → c.getD i 0 = nI (P i)
noncomputable def RS (Mn : Nat) (M x1 : Int32) (now : List Int32) (K : Int64 × Int32 × Int32) (T : Int32 × Int32 × Int32 × Int32 × Int32 × List Int32 × List Int32) : Prop := (K.2.2 ≠ 0 ∧ T.1 = K.2.2 ∧ T.2.2.2.2.2.1 = now) ∨ (K.2.2 = 0 ∧ ∃ y3 y4 sn pn c P, RL Mn Mn K.1 y3 y4 sn pn c P ∧ T.1 = nI sn ∧ T.2.2.2.2.2.1 = km_ranking_245 c x1 M.toInt.toNat 0 now)
section RLS
variable {Mn k sn pn i0 : Nat} {y1 : Int64} {y3 y4 x M x1 : Int32} {c now : List Int32} {P : Nat → Nat}
theorem RL_set (hM : Mn ≤ 6) (hx : x.toInt = (i0 : Int)) (hi : i0 < Mn) (h : c.length = 6 ∧ ∀ i, b32 y3 i = true → c.getD i 0 = nI (P i)) {p : Nat} : (c.set x.toInt.toNat (nI p)).length = 6 ∧ ∀ i, b32 (y3 ||| ((1 : Int32) <<< (x &&& 31))) i = true → (c.set x.toInt.toNat (nI p)).getD i 0 = nI (if i = i0 then p else P i) := by
  have ex : x.toInt.toNat = i0 := by omega
  rw [ex]
  refine ⟨by rw [List.length_set]; exact h.1, fun i hi' => ?_⟩
  rw [gd_set (by omega)]
  by_cases e : i = i0
  · rw [if_pos e, if_pos e]
  · rw [if_neg e, if_neg e]
    rw [b32_see hx (by omega)] at hi'
    have hi2 : (b32 y3 i || decide (i = i0)) = true := hi'
    rw [decide_eq_false e, Bool.or_false] at hi2
    exact h.2 i hi2
theorem RL_like (hM : Mn ≤ 6) (hx : x.toInt = (i0 : Int)) (hi : i0 < Mn) (hs : b32 y3 i0 = false) (hk : 0 < k) (h : RL Mn k y1 y3 y4 sn pn c P) : RL Mn (k + 1) (y1 ||| (y4.toInt64 <<< ((x * 6).toInt64 &&& 63))) (y3 ||| ((1 : Int32) <<< (x &&& 31))) y4 sn pn (c.set x.toInt.toNat (nI pn)) (fun i => if i = i0 then pn else P i) := by
  obtain ⟨j, h2⟩ := h
  refine ⟨?_, RL_set hM hx hi h2⟩
  rw [b32_see hx (by omega)]
  have ab6 : ∀ g, 6 ≤ g → b32 y4 g = false := fun g hg => by
    rw [j.2.2.2.2.2.1 g, j.1 g (by omega)]
    rfl
  exact JR_like hM j hk hi hs (fun t => by rw [b64_or, b64_shl hx (by omega) ab6])
theorem RL_new (hM : Mn ≤ 6) (hx : x.toInt = (i0 : Int)) (hi : i0 < Mn) (hs : b32 y3 i0 = false) (hk : k < Mn) (h : RL Mn k y1 y3 y4 sn pn c P) : RL Mn (k + 1) (y1 ||| (y3.toInt64 <<< ((x * 6).toInt64 &&& 63))) (y3 ||| ((1 : Int32) <<< (x &&& 31))) y3 (sn + 1) k (c.set x.toInt.toNat (nI k)) (fun i => if i = i0 then k else P i) := by
  obtain ⟨j, h2⟩ := h
  refine ⟨?_, RL_set hM hx hi h2⟩
  rw [b32_see hx (by omega)]
  exact JR_new hM j hk hi hs (fun t => by rw [b64_or, b64_shl hx (by omega) (fun g hg => j.1 g (by omega))])
theorem RL_first (h : RL Mn 0 y1 y3 y4 sn pn c P) : y4 = y3 := b32_ext fun g _ => by
  obtain ⟨j, -⟩ := h
  have z : b32 y3 g = false := by
    cases e : b32 y3 g with
    | false => rfl
    | true =>
      have gM : g < Mn := by
        by_cases e2 : g < Mn
        · exact e2
        · rw [j.1 g (by omega)] at e; cases e
      have := cnt_lt (f := fun _ => false) (g := b32 y3) (k := g) Mn (fun _ _ z => by cases z) gM rfl e
      have := j.2.1
      omega
  rw [j.2.2.2.2.2.1 g, z]
  rfl
theorem RL_sn (h : RL Mn k y1 y3 y4 sn pn c P) : sn ≤ 6 := by
  rw [h.1.2.2.2.2.2.2.2.2.2]
  exact cnt_n 6
theorem fail_z : ∀ p, p ≤ 20 → (km_wrongOf (nI p) 1).1 ≠ 0 ∧ (km_wrongOf (nI p) 6).1 ≠ 0 := by decide +kernel
theorem fail_eq {p k : Int32} : (kx_fail p 0 k).2 = (km_wrongOf p k).1 := by
  unfold kx_fail
  rw [if_pos rfl]
  rfl
theorem RS_f1 {p : Nat} (hp : p ≤ 20) {a : Int64} {b f8 z E w : Int32} {d : List Int32} : RS Mn M x1 now (a, b, (kx_fail (nI p) 0 1).2) ((km_wrongOf (nI p) 1).1, f8, z, E, w, now, d) := Or.inl ⟨by show (kx_fail (nI p) 0 1).2 ≠ 0; rw [fail_eq]; exact (fail_z p hp).1, fail_eq.symm, rfl⟩
theorem RS_f6 {p : Nat} (hp : p ≤ 20) {a : Int64} {b f8 z E w : Int32} {d : List Int32} : RS Mn M x1 now (a, b, (kx_fail (nI p) 0 6).2) ((km_wrongOf (nI p) 6).1, f8, z, E, w, now, d) := Or.inl ⟨by show (kx_fail (nI p) 0 6).2 ≠ 0; rw [fail_eq]; exact (fail_z p hp).2, fail_eq.symm, rfl⟩
theorem isM_eq (hM : M.toInt = (Mn : Int)) (h2 : 2 ≤ Mn ∧ Mn ≤ 6) : km_isMeasure M x = kt_isMeasure M x ∧ (kt_isMeasure M x ≠ 0 → ∃ i : Nat, x.toInt = (i : Int) ∧ i < Mn) := by
  have e1 : (M - 1).toInt = M.toInt - 1 := by
    obtain ⟨a, b⟩ := h2
    have : M = nI Mn := nJ_of hM
    rw [hM, this]
    exact (by decide +kernel : ∀ n : Nat, n < 7 → 2 ≤ n → (nI n - 1).toInt = (n : Int) - 1) Mn (by omega) a
  have e0 : (0 : Int32).toInt = 0 := rfl
  unfold km_isMeasure kt_isMeasure km_in
  rw [e1, e0]
  by_cases a : x.toInt < 0
  · rw [if_pos a, if_pos a]
    exact ⟨rfl, fun z => absurd rfl z⟩
  · rw [if_neg a, if_neg a]
    by_cases b : x.toInt < M.toInt
    · rw [if_neg (show ¬ M.toInt - 1 < x.toInt by omega), if_pos b]
      exact ⟨rfl, fun _ => ⟨x.toInt.toNat, by omega, by omega⟩⟩
    · rw [if_pos (show M.toInt - 1 < x.toInt by omega), if_neg b]
      exact ⟨rfl, fun z => absurd rfl z⟩
theorem RS_letter (hM : M.toInt = (Mn : Int)) (h2 : 2 ≤ Mn ∧ Mn ≤ 6) {a b d : Int64 × Int32 × Int32} {a' b' d' : Int32 × Int32 × Int32 × Int32 × Int32 × List Int32 × List Int32} (f1 : RS Mn M x1 now a a') (f6 : RS Mn M x1 now d d') (r : ∀ i0 : Nat, x.toInt = (i0 : Int) → i0 < Mn → b32 y3 i0 = false → RS Mn M x1 now b b') : RS Mn M x1 now (if kt_isMeasure M x = 0 then a else if ((y3 >>> (x &&& 31)) &&& 1) = 0 then b else d) (if km_isMeasure M x = 0 then a' else if km_has y3 x = 0 then b' else d') := by
  obtain ⟨e1, e2⟩ := isM_eq (x := x) hM h2
  rw [e1]
  by_cases c1 : kt_isMeasure M x = 0
  · rw [if_pos c1, if_pos c1]
    exact f1
  · rw [if_neg c1, if_neg c1]
    obtain ⟨i0, hx, hi⟩ := e2 c1
    have t := tst (t := y3) hx (show i0 < 32 by omega)
    unfold km_has
    rw [t]
    cases e : b32 y3 i0 with
    | true =>
      rw [if_pos rfl, if_neg (show ¬ (1 : Int32) = 0 by decide), if_pos rfl, if_neg (show ¬ (1 : Int32) = 0 by decide)]
      exact f6
    | false =>
      rw [if_neg (show ¬ (false = true) by decide), if_pos rfl, if_neg (show ¬ (0 : Int32) = 1 by decide), if_pos rfl]
      exact r i0 hx hi e
theorem rk_lock {E f11 : Int32} {ta tb : List Int32} (hM : M.toInt = (Mn : Int)) (h2 : 2 ≤ Mn ∧ Mn ≤ 6) (hs : ∀ p, p ≤ 20 → kx_sign E (nI p) ta = km_here (nI p) E tb) (hn : ∀ p, p ≤ 20 → (km_here (nI p) E tb = -1 ↔ ¬ (nI p).toInt < E.toInt)) : ∀ (m k p : Nat) (y1 : Int64) (y3 y4 : Int32) (sn pn : Nat) (c : List Int32) (P : Nat → Nat), k + m = Mn → p ≤ 2 * k → RL Mn k y1 y3 y4 sn pn c P → RS Mn M x1 now (kc_readRanking_10 E 0 M ta m y1 y3 y4 (nI k) (nI p)) (km_ranking_54 M 0 E f11 now tb x1 m y3 (nI sn) (nI pn) (nI k) (nI p) c) := by
  intro m
  induction m with
  | zero =>
    intro k p y1 y3 y4 sn pn c P hk hp h
    have e : k = Mn := by omega
    subst e
    unfold kc_readRanking_10 km_ranking_54
    rw [hs p (by omega)]
    by_cases c1 : (nI p).toInt < E.toInt
    · rw [if_neg (fun z => (hn p (by omega)).mp z c1), if_pos c1]
      exact RS_f1 (by omega)
    · rw [if_pos ((hn p (by omega)).mpr c1), if_neg c1]
      exact Or.inr ⟨rfl, y3, y4, sn, pn, c, P, h, rfl, rfl⟩
  | succ m ih =>
    intro k p y1 y3 y4 sn pn c P hk hp h
    have tk := nI_toInt (n := k) (by omega)
    unfold kc_readRanking_10 km_ranking_54
    rw [nJ_1 (n := p) (by omega), hs p (by omega), hs (p + 1) (by omega)]
    by_cases k0 : 0 < k
    · rw [if_pos (show 0 < (nI k).toInt by omega), if_pos (show 0 < (nI k).toInt by omega)]
      by_cases a1 : km_here (nI p) E tb = 62
      · rw [if_pos a1, if_neg (show ¬ km_here (nI p) E tb = 61 by rw [a1]; decide), if_pos a1]
        refine RS_letter hM h2 (RS_f1 (by omega)) (RS_f6 (by omega)) (fun i0 hx hi he => ?_)
        rw [nJ_1 (n := k) (by omega), nJ_1 (n := p + 1) (by omega), nJ_1 (n := sn) (by have := RL_sn h; omega)]
        exact ih (k + 1) (p + 1 + 1) _ _ _ _ _ _ _ (by omega) (by omega) (RL_new h2.2 hx hi he (by omega) h)
      · rw [if_neg a1]
        by_cases a2 : km_here (nI p) E tb = 61
        · rw [if_pos a2, if_pos a2]
          refine RS_letter hM h2 (RS_f1 (by omega)) (RS_f6 (by omega)) (fun i0 hx hi he => ?_)
          rw [nJ_1 (n := k) (by omega), nJ_1 (n := p + 1) (by omega), Int32.add_zero]
          exact ih (k + 1) (p + 1 + 1) _ _ _ _ _ _ _ (by omega) (by omega) (RL_like h2.2 hx hi he k0 h)
        · rw [if_neg a2, if_neg a2, if_neg a1]
          exact RS_f1 (by omega)
    · rw [if_neg (show ¬ 0 < (nI k).toInt by omega), if_neg (show ¬ 0 < (nI k).toInt by omega)]
      have e : k = 0 := by omega
      subst e
      refine RS_letter hM h2 (RS_f1 (by omega)) (RS_f6 (by omega)) (fun i0 hx hi he => ?_)
      rw [nJ_1 (n := 0) (by omega), nJ_1 (n := sn) (by have := RL_sn h; omega)]
      have e4 := RL_first h
      subst e4
      exact ih (0 + 1) (p + 1) _ _ _ _ _ _ _ (by omega) (by omega) (RL_new h2.2 hx hi he (by omega) h)
end RLS
