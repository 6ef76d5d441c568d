/-! the law's text: sums, the class reads as the machine does -/
noncomputable def cG (a2 : List Int32) (N p : Nat) : Int32 := if p < N then a2.getD p 0 else -1
/-- how a method ends: well, at a place from lo on; or with a fault -/
noncomputable def oK (N lo o : Nat) (r1 r2 r3 : Int32) (G : Nat → Prop) (B : Int32 → Prop) : Prop := (∃ q, lo ≤ q ∧ q ≤ N ∧ r1 = nI q ∧ r2 = 0 ∧ r3 = nI o ∧ G q) ∨ (¬ r2 = 0 ∧ B r2)
section PC
variable {N : Nat} {a2 : List Int32}
theorem cG_e (p : Nat) (h : N ≤ p) : cG a2 N p = -1 := if_neg (by omega)
theorem cG_s (h2 : a2.length = 260) (hN : N ≤ 240) {p : Nat} (hp : p ≤ N) : kx_sign (nI N) (nI p) a2 = cG a2 N p := by
  unfold kx_sign cG
  have e1 := nI_toInt (n := p) (by omega)
  have e2 := nI_toInt (n := N) (by omega)
  have e3 : (Int32.ofNat a2.length).toInt = 260 := by rw [h2]; rfl
  rw [if_neg (by omega), e3]
  by_cases c : p < N
  · rw [if_pos (by omega), if_pos (by omega), if_pos c, nJ_ix (n := p) (by omega)]
  · rw [if_neg (by omega), if_neg c]
theorem fl_0 {p : Nat} {k : Int32} : kx_fail (nI p) 0 k = (-1, eF k p) := by
  unfold kx_fail
  rw [if_pos rfl]
  rfl
theorem ps_0 (h2 : a2.length = 260) (hN : N ≤ 240) {p : Nat} (hp : p ≤ N) {x : Int32} : kx_pass (nI N) (nI p) 0 a2 x = if cG a2 N p = x then (nI (p + 1), 0) else (nI p, eF 1 p) := by
  unfold kx_pass
  rw [if_pos rfl, cG_s h2 hN hp, nJ_1 (n := p) (by omega), fl_0]
theorem ps_e {n p e x : Int32} (he : ¬ e = 0) : kx_pass n p e a2 x = (p, e) := by
  unfold kx_pass
  rw [if_neg he]
theorem st_0 (h2 : a2.length = 260) (hN : N ≤ 240) {p : Nat} (hp : p ≤ N) {x y : Int32} : kx_stands (nI N) (nI p) 0 a2 x y = if cG a2 N p = x then 1 else if cG a2 N p = y then 1 else 0 := by
  unfold kx_stands
  rw [if_pos rfl, cG_s h2 hN hp]
theorem st_e {n p e x y : Int32} (he : ¬ e = 0) : kx_stands n p e a2 x y = 0 := by
  unfold kx_stands
  rw [if_neg he]
theorem op_y (h2 : a2.length = 260) (hN : N ≤ 240) {p o : Nat} (hp : p ≤ N) (ho : o < 6) {x : Int32} (h : cG a2 N p = x) : kr_opens (nI N) (nI p) 0 (nI o) a2 x = (1, nI (p + 1), 0, nI (o + 1)) := by
  have eo := nI_toInt (n := o) (by omega)
  unfold kr_opens
  rw [if_pos rfl, lt_e, cG_s h2 hN hp, if_pos h, if_pos (by omega), lt_e, ps_0 h2 hN hp, if_pos h]
  show (if (0 : Int32) = 0 then ((1 : Int32), nI (p + 1), (0 : Int32), nI o + 1) else (0, nI (p + 1), 0, nI o)) = _
  rw [if_pos rfl, nJ_1 (n := o) (by omega)]
theorem op_6 (h2 : a2.length = 260) (hN : N ≤ 240) {p : Nat} (hp : p ≤ N) {x : Int32} (h : cG a2 N p = x) : kr_opens (nI N) (nI p) 0 (nI 6) a2 x = (0, nI p, eF 5 p, nI 6) := by
  have e0 := (eF_0 p (by omega)).2.2.2
  unfold kr_opens
  rw [if_pos rfl, lt_e, cG_s h2 hN hp, if_pos h, if_neg (by rw [nI_toInt (by omega)]; omega), lt_e, lt_e, fl_0]
  show (if (kx_pass (nI N) (nI p) (eF 5 p) a2 x).2 = 0 then ((1 : Int32), (kx_pass (nI N) (nI p) (eF 5 p) a2 x).1, (kx_pass (nI N) (nI p) (eF 5 p) a2 x).2, nI 6 + 1) else (0, (kx_pass (nI N) (nI p) (eF 5 p) a2 x).1, (kx_pass (nI N) (nI p) (eF 5 p) a2 x).2, nI 6)) = _
  rw [ps_e e0, if_neg e0]
theorem op_n (h2 : a2.length = 260) (hN : N ≤ 240) {p o : Nat} (hp : p ≤ N) {x : Int32} (h : ¬ cG a2 N p = x) : kr_opens (nI N) (nI p) 0 (nI o) a2 x = (0, nI p, eF 1 p, nI o) := by
  have e0 := (eF_0 p (by omega)).1
  unfold kr_opens
  rw [if_pos rfl, lt_e, cG_s h2 hN hp, if_neg h, lt_e, ps_0 h2 hN hp, if_neg h]
  show (if eF 1 p = 0 then ((1 : Int32), nI p, eF 1 p, nI o + 1) else (0, nI p, eF 1 p, nI o)) = _
  rw [if_neg e0]
theorem wi_0 {x : Int32} : kc_within x 48 57 = 0 ↔ ¬ dG x := by
  have e1 : (48 : Int32).toInt = 48 := rfl
  have e2 : (57 : Int32).toInt = 57 := rfl
  unfold kc_within
  rw [e1, e2]
  by_cases c : x.toInt < 48
  · rw [if_pos c]
    exact ⟨fun _ z => by have := z.1; omega, fun _ => rfl⟩
  · rw [if_neg c]
    by_cases d : 57 < x.toInt
    · rw [if_pos d]
      exact ⟨fun _ z => by have := z.2; omega, fun _ => rfl⟩
    · rw [if_neg d]
      exact ⟨fun z => absurd z (by decide), fun z => absurd ⟨by omega, by omega⟩ z⟩
theorem c_num (h2 : a2.length = 260) (hN : N ≤ 240) : ∀ (m d p : Nat) (y f53 : Int32) (a58 a59 : List Int32) (R : Int32 × Int32 × Int32 × List Int32 × List Int32), p ≤ N → d + m = 6 → R = kr_readNumber_4 (nI N) 0 f53 a2 a58 a59 m y (nI d) (nI p) → (∃ q, pN (cG a2 N) m d p = .inl q ∧ R.1 = nI q ∧ R.2.1 = 0) ∨ (pN (cG a2 N) m d p = .inr R.2.1 ∧ ¬ R.2.1 = 0) := by
  intro m
  induction m with
  | zero =>
    intro d p y f53 a58 a59 R hp hd hR
    rw [e0_kr_readNumber_4, lt_e] at hR
    subst hR
    exact Or.inl ⟨p, rfl, rfl, rfl⟩
  | succ m ih =>
    intro d p y f53 a58 a59 R hp hd hR
    have ep : pN (cG a2 N) (m + 1) d p = if dG (cG a2 N p) then (if d = 5 then .inr (eF 2 p) else pN (cG a2 N) m (d + 1) (p + 1)) else .inl p := rfl
    rw [e_kr_readNumber_4, lt_e, cG_s h2 hN hp, lt_e] at hR
    rw [ep]
    by_cases c : dG (cG a2 N p)
    · have := in_of cG_e (dG_n c)
      rw [if_neg (fun z => wi_0.mp z c)] at hR
      rw [if_pos c]
      by_cases d5 : d = 5
      · subst d5
        rw [if_pos (show nI 5 = 5 from rfl), lt_e, fl_0] at hR
        subst hR
        rw [if_pos rfl]
        exact Or.inr ⟨rfl, (eF_0 p (by omega)).2.1⟩
      · rw [if_neg (show ¬ nI d = 5 from fun z => d5 (nJ_inj (m := d) (n := 5) (by omega) (by omega) z)), nJ_1 (n := d) (by omega), nJ_1 (n := p) (by omega)] at hR
        rw [if_neg d5]
        exact ih (d + 1) (p + 1) _ f53 a58 a59 R (by omega) (by omega) hR
    · rw [if_pos (wi_0.mpr c), lt_e] at hR
      subst hR
      rw [if_neg c]
      exact Or.inl ⟨p, rfl, rfl, rfl⟩
/-- a byte, or none -/
theorem cG_b (hb : ∀ p, p < N → ∃ n, n < 256 ∧ a2.getD p 0 = nI n) (p : Nat) : (cG a2 N p = -1 ∧ N ≤ p) ∨ (p < N ∧ ∃ n, n < 256 ∧ cG a2 N p = nI n) := by
  by_cases c : p < N
  · refine Or.inr ⟨c, ?_⟩
    unfold cG
    rw [if_pos c]
    exact hb p c
  · exact Or.inl ⟨if_neg c, by omega⟩
theorem fact_256 : ∀ n, n < 256 → ¬ nI n = -1 ∧ ((sx_ixF ((nI n).toUInt32 % 65536).toInt32 sx_b 0).toInt < 0 ↔ km_factOf (nI n) = -1) := by decide +kernel
abbrev RD : Type := Int32 → Int32 → Int32 → Int32 → Int32 → List Int32 → List Int32 → List Int32 → (Int32 × Int32 × Int32 × Int32 × List Int32 × List Int32)
/-- a reader of sums, at most so deep -/
noncomputable def HR (a2 : List Int32) (N n : Nat) (r : RD) : Prop := ∀ (p o : Nat) (f53 : Int32) (a58 a59 : List Int32), p ≤ N → o ≤ 6 → 7 ≤ n + o → oK N (p + 1) o (r (nI N) (nI p) 0 (nI o) f53 a2 a58 a59).1 (r (nI N) (nI p) 0 (nI o) f53 a2 a58 a59).2.1 (r (nI N) (nI p) 0 (nI o) f53 a2 a58 a59).2.2.1 (fun q => (∀ b, rS (cG a2 N) N false p o b = rS (cG a2 N) N true q o b) ∧ km_sumSign (cG a2 N q) = -1) (fun e => ∀ b, rS (cG a2 N) N false p o b = .inr e)
theorem c_fac (h2 : a2.length = 260) (hN : N ≤ 240) (hb : ∀ p, p < N → ∃ n, n < 256 ∧ a2.getD p 0 = nI n) {n : Nat} {r : RD} (hr : HR a2 N n r) {p o : Nat} {f53 : Int32} {a58 a59 : List Int32} {R : Int32 × Int32 × Int32 × Int32 × List Int32 × List Int32} (hp : p ≤ N) (ho : o ≤ 6) (hn : 7 ≤ n + 1 + o) (hR : R = kr_readFactor r (nI N) (nI p) 0 (nI o) f53 a2 a58 a59) : oK N (p + 1) o R.1 R.2.1 R.2.2.1 (fun q => ∀ b, rS (cG a2 N) N false p o b = rS (cG a2 N) N true q o b) (fun e => ∀ b, rS (cG a2 N) N false p o b = .inr e) := by
  have hF := fun b => rS_F (s := cG a2 N) cG_e hp o b
  have e0 := eF_0 p (by omega)
  unfold kr_readFactor at hR
  rw [if_pos rfl, lt_e, cG_s h2 hN hp] at hR
  by_cases c : cG a2 N p = 91
  · have pN' := in_of (s := cG a2 N) cG_e (p := p) (by rw [c]; decide)
    rw [if_pos c, lt_e] at hR
    by_cases o6 : o = 6
    · subst o6
      rw [op_6 h2 hN hp c] at hR
      have hR : R = (nI p, eF 5 p, nI 6, f53, a58, a59) := hR.trans (if_pos rfl)
      subst hR
      exact Or.inr ⟨e0.2.2.2, fun b => (hF b).trans ((if_pos c).trans (if_pos rfl))⟩
    · rw [op_y h2 hN hp (by omega) c] at hR
      have hR := hR.trans (if_neg (show ¬ (1 : Int32) = 0 by decide))
      have h := hr (p + 1) (o + 1) f53 a58 a59 (by omega) (by omega) (by omega)
      have hR : R = ((kx_pass (nI N) (r (nI N) (nI (p + 1)) 0 (nI (o + 1)) f53 a2 a58 a59).1 (r (nI N) (nI (p + 1)) 0 (nI (o + 1)) f53 a2 a58 a59).2.1 a2 93).1, (kx_pass (nI N) (r (nI N) (nI (p + 1)) 0 (nI (o + 1)) f53 a2 a58 a59).1 (r (nI N) (nI (p + 1)) 0 (nI (o + 1)) f53 a2 a58 a59).2.1 a2 93).2, ((r (nI N) (nI (p + 1)) 0 (nI (o + 1)) f53 a2 a58 a59).2.2.1 - 1), (r (nI N) (nI (p + 1)) 0 (nI (o + 1)) f53 a2 a58 a59).2.2.2.1, (r (nI N) (nI (p + 1)) 0 (nI (o + 1)) f53 a2 a58 a59).2.2.2.2.1, (r (nI N) (nI (p + 1)) 0 (nI (o + 1)) f53 a2 a58 a59).2.2.2.2.2) := hR
      generalize r (nI N) (nI (p + 1)) 0 (nI (o + 1)) f53 a2 a58 a59 = X at h hR
      have hF := fun b => (hF b).trans ((if_pos c).trans (if_neg o6))
      rcases h with ⟨q, q1, q2, q3, q4, q5, q6, q7⟩ | ⟨q1, q2⟩
      · have A := fun b => rS_A (s := cG a2 N) (N := N) q2 (o + 1) (b + 1)
        have A := fun b => (A b).trans (if_pos q7)
        rw [q3, q4, q5, ps_0 h2 hN q2] at hR
        by_cases d : cG a2 N q = 93
        · have := in_of (s := cG a2 N) cG_e (p := q) (by rw [d]; decide)
          rw [if_pos d] at hR
          subst hR
          refine Or.inl ⟨q + 1, by omega, by omega, rfl, rfl, ?_, fun b => (hF b).trans ((q6 (b + 1)).trans ((A b).trans (if_pos ⟨d, by omega⟩)))⟩
          show nI (o + 1) - 1 = nI o
          rw [← nJ_1 (n := o) (by omega), Int32.add_sub_cancel]
        · rw [if_neg d] at hR
          subst hR
          exact Or.inr ⟨(eF_0 q (by omega)).1, fun b => (hF b).trans ((q6 (b + 1)).trans ((A b).trans ((if_neg (fun z => d z.1)).trans (if_pos (by omega)))))⟩
      · rw [ps_e q1] at hR
        subst hR
        exact Or.inr ⟨q1, fun b => (hF b).trans (q2 (b + 1))⟩
  · have hF := fun b => (hF b).trans (if_neg c)
    rw [if_neg c, lt_e] at hR
    by_cases d : dG (cG a2 N p)
    · have hF := fun b => (hF b).trans (if_pos d)
      rw [if_neg (fun z => wi_0.mp z d), lt_e] at hR
      unfold kr_readNumber at hR
      have h := c_num h2 hN 6 0 p 0 f53 a58 a59 _ hp rfl rfl
      have hR : R = ((kr_readNumber_4 (nI N) 0 f53 a2 a58 a59 6 0 (nI 0) (nI p)).1, (kr_readNumber_4 (nI N) 0 f53 a2 a58 a59 6 0 (nI 0) (nI p)).2.1, nI o, (kr_readNumber_4 (nI N) 0 f53 a2 a58 a59 6 0 (nI 0) (nI p)).2.2.1, (kr_readNumber_4 (nI N) 0 f53 a2 a58 a59 6 0 (nI 0) (nI p)).2.2.2.1, (kr_readNumber_4 (nI N) 0 f53 a2 a58 a59 6 0 (nI 0) (nI p)).2.2.2.2) := hR
      generalize kr_readNumber_4 (nI N) 0 f53 a2 a58 a59 6 0 (nI 0) (nI p) = X at h hR
      subst hR
      rcases h with ⟨q, h1, h3, h4⟩ | ⟨h1, h3⟩
      · obtain ⟨q1, q2, q3⟩ := pN_le cG_e 6 0 p hp h1
        refine Or.inl ⟨q, q3 (by omega) d, q2, h3, h4, rfl, fun b => ?_⟩
        have := hF b
        rw [h1] at this
        exact this
      · refine Or.inr ⟨h3, fun b => ?_⟩
        have := hF b
        rw [h1] at this
        exact this
    · have hF := fun b => (hF b).trans (if_neg d)
      rw [if_pos (wi_0.mpr d)] at hR
      rcases cG_b hb p with ⟨k1, k2⟩ | ⟨k1, m, k2, k3⟩
      · rw [if_pos k1, lt_e, fl_0] at hR
        subst hR
        exact Or.inr ⟨e0.1, fun b => (hF b).trans (if_pos (by rw [k1]; exact em_fact))⟩
      · obtain ⟨m1, m2⟩ := fact_256 m k2
        rw [k3] at hR
        rw [if_neg m1] at hR
        by_cases k : km_factOf (nI m) = -1
        · rw [if_pos (m2.mpr k), lt_e, fl_0] at hR
          subst hR
          exact Or.inr ⟨e0.1, fun b => (hF b).trans (if_pos (by rw [k3]; exact k))⟩
        · rw [if_neg (fun z => k (m2.mp z)), lt_e, nJ_1 (n := p) (by omega)] at hR
          subst hR
          exact Or.inl ⟨p + 1, by omega, by omega, rfl, rfl, rfl, fun b => (hF b).trans (if_neg (by rw [k3]; exact k))⟩
/-- behind a fault nothing is read -/
theorem c_fac_e {r : RD} {n p e o f53 : Int32} {a58 a59 : List Int32} (he : ¬ e = 0) : kr_readFactor r n p e o f53 a2 a58 a59 = (p, e, o, f53, a58, a59) := by
  unfold kr_readFactor
  rw [if_neg he]
theorem c_prl_e {r : RD} {n p e o f53 y : Int32} {a58 a59 : List Int32} (he : ¬ e = 0) : ∀ m, (kr_readProduct_6 r n a2 m y p e o f53 a58 a59) = (p, e, o, f53, a58, a59)
  | 0 => by rw [e0_kr_readProduct_6]
  | m + 1 => by rw [e_kr_readProduct_6, lt_e, st_e he, if_pos rfl, lt_e, st_e he, if_pos rfl]
theorem c_sml_e {r : RD} {n p e o f53 y : Int32} {a58 a59 : List Int32} (he : ¬ e = 0) : ∀ m, (kr_readSum_6 r n a2 m y p e o f53 a58 a59) = (p, e, o, f53, a58, a59)
  | 0 => by rw [e0_kr_readSum_6]
  | m + 1 => by rw [e_kr_readSum_6, lt_e, st_e he, if_pos rfl]
abbrev R6 : Type := Int32 × Int32 × Int32 × Int32 × List Int32 × List Int32
noncomputable def mulS (x : Int32) : Prop := x = 42 ∨ x = 47 ∨ x = 37
theorem mul_sg {x : Int32} (h : mulS x) : ¬ km_sumSign x = -1 := by
  rcases h with h | h | h <;> rw [h] <;> decide +kernel
theorem add_sg {x : Int32} (h : x = 43 ∨ x = 45) : ¬ km_sumSign x = -1 := by
  rcases h with h | h <;> rw [h] <;> decide +kernel
theorem no_sg {x : Int32} (h1 : ¬ mulS x) (h3 : ¬ (x = 43 ∨ x = 45)) : km_sumSign x = -1 := by
  unfold km_sumSign
  rw [if_neg (fun z => h3 (Or.inl z)), if_neg (fun z => h3 (Or.inr z)), if_neg (fun z => h1 (Or.inl z)), if_neg (fun z => h1 (Or.inr (Or.inl z))), if_neg (fun z => h1 (Or.inr (Or.inr z)))]
theorem c_prl (h2 : a2.length = 260) (hN : N ≤ 240) (hb : ∀ p, p < N → ∃ n, n < 256 ∧ a2.getD p 0 = nI n) {n : Nat} {r : RD} (hr : HR a2 N n r) {o : Nat} (ho : o ≤ 6) (hn : 7 ≤ n + 1 + o) : ∀ (m p : Nat) (y f53 : Int32) (a58 a59 : List Int32) (R : R6), p ≤ N → N - p ≤ m → R = kr_readProduct_6 r (nI N) a2 m y (nI p) 0 (nI o) f53 a58 a59 → oK N p o R.1 R.2.1 R.2.2.1 (fun q => (∀ b, rS (cG a2 N) N true p o b = rS (cG a2 N) N true q o b) ∧ ¬ mulS (cG a2 N q)) (fun e => ∀ b, rS (cG a2 N) N true p o b = .inr e) := by
  intro m
  induction m with
  | zero =>
    intro p y f53 a58 a59 R hp hm hR
    rw [e0_kr_readProduct_6] at hR
    subst hR
    refine Or.inl ⟨p, Nat.le_refl _, hp, rfl, rfl, rfl, fun b => rfl, fun z => ?_⟩
    rw [cG_e p (by omega)] at z
    rcases z with z | z | z <;> exact absurd z (by decide)
  | succ m ih =>
    intro p y f53 a58 a59 R hp hm hR
    rw [e_kr_readProduct_6, lt_e, st_0 h2 hN hp] at hR
    have go : mulS (cG a2 N p) → R = lt (kr_readFactor r (nI N) (nI (p + 1)) 0 (nI o) f53 a2 a58 a59) (fun g => lt (kl_add_53 g.2.2.2.1 g.2.2.2.2.1 g.2.2.2.2.2 (cG a2 N p) 0) (fun g2 => kr_readProduct_6 r (nI N) a2 m (y + 1) g.1 g.2.1 g.2.2.1 g2.2.1 g2.2.2.1 g2.2.2.2)) → oK N p o R.1 R.2.1 R.2.2.1 (fun q => (∀ b, rS (cG a2 N) N true p o b = rS (cG a2 N) N true q o b) ∧ ¬ mulS (cG a2 N q)) (fun e => ∀ b, rS (cG a2 N) N true p o b = .inr e) := fun hm1 hR => by
      have pl := in_of (s := cG a2 N) cG_e (p := p) (fun z => mul_sg hm1 (by rw [z]; exact em_sign))
      have A := fun b => (rS_A (s := cG a2 N) (N := N) hp o b).trans (if_neg (mul_sg hm1))
      have h := c_fac h2 hN hb hr (p := p + 1) (f53 := f53) (a58 := a58) (a59 := a59) (by omega) ho hn rfl
      generalize kr_readFactor r (nI N) (nI (p + 1)) 0 (nI o) f53 a2 a58 a59 = X at h hR
      rw [lt_e, lt_e] at hR
      rcases h with ⟨q, q1, q2, q3, q4, q5, q6⟩ | ⟨q1, q2⟩
      · rw [q3, q4, q5] at hR
        rcases ih q _ _ _ _ R q2 (by omega) hR with ⟨w, w1, w2, w3, w4, w5, w6, w7⟩ | ⟨w1, w2⟩
        · exact Or.inl ⟨w, by omega, w2, w3, w4, w5, fun b => (A b).trans ((q6 b).trans (w6 b)), w7⟩
        · exact Or.inr ⟨w1, fun b => (A b).trans ((q6 b).trans (w2 b))⟩
      · rw [c_prl_e q1] at hR
        subst hR
        exact Or.inr ⟨q1, fun b => (A b).trans (q2 b)⟩
    by_cases c1 : cG a2 N p = 42
    · rw [if_pos c1, if_neg (show ¬ (1 : Int32) = 0 by decide), lt_e, cG_s h2 hN hp, nJ_1 (n := p) (by omega)] at hR
      exact go (Or.inl c1) hR
    · rw [if_neg c1] at hR
      by_cases c2 : cG a2 N p = 47
      · rw [if_pos c2, if_neg (show ¬ (1 : Int32) = 0 by decide), lt_e, cG_s h2 hN hp, nJ_1 (n := p) (by omega)] at hR
        exact go (Or.inr (Or.inl c2)) hR
      · rw [if_neg c2, if_pos rfl, lt_e, st_0 h2 hN hp] at hR
        by_cases c3 : cG a2 N p = 37
        · rw [if_pos c3, if_neg (show ¬ (1 : Int32) = 0 by decide), lt_e, cG_s h2 hN hp, nJ_1 (n := p) (by omega)] at hR
          exact go (Or.inr (Or.inr c3)) hR
        · rw [if_neg c3, if_neg c3, if_pos rfl] at hR
          subst hR
          exact Or.inl ⟨p, Nat.le_refl _, hp, rfl, rfl, rfl, fun b => rfl, fun z => by rcases z with z | z | z; exact c1 z; exact c2 z; exact c3 z⟩
theorem c_prd (h2 : a2.length = 260) (hN : N ≤ 240) (hb : ∀ p, p < N → ∃ n, n < 256 ∧ a2.getD p 0 = nI n) {n : Nat} {r : RD} (hr : HR a2 N n r) {p o : Nat} {f53 : Int32} {a58 a59 : List Int32} {R : R6} (hp : p ≤ N) (ho : o ≤ 6) (hn : 7 ≤ n + 1 + o) (hR : R = kr_readProduct r (nI N) (nI p) 0 (nI o) f53 a2 a58 a59) : oK N (p + 1) o R.1 R.2.1 R.2.2.1 (fun q => (∀ b, rS (cG a2 N) N false p o b = rS (cG a2 N) N true q o b) ∧ ¬ mulS (cG a2 N q)) (fun e => ∀ b, rS (cG a2 N) N false p o b = .inr e) := by
  unfold kr_readProduct at hR
  have h := c_fac h2 hN hb hr (f53 := f53) (a58 := a58) (a59 := a59) hp ho hn rfl
  generalize kr_readFactor r (nI N) (nI p) 0 (nI o) f53 a2 a58 a59 = X at h hR
  rw [lt_e, lt_e] at hR
  have hR : R = kr_readProduct_6 r (nI N) a2 240 0 X.1 X.2.1 X.2.2.1 X.2.2.2.1 X.2.2.2.2.1 X.2.2.2.2.2 := hR
  rcases h with ⟨q, q1, q2, q3, q4, q5, q6⟩ | ⟨q1, q2⟩
  · rw [q3, q4, q5] at hR
    rcases c_prl h2 hN hb hr ho hn 240 q _ _ _ _ R q2 (by omega) hR with ⟨w, w1, w2, w3, w4, w5, w6, w7⟩ | ⟨w1, w2⟩
    · exact Or.inl ⟨w, by omega, w2, w3, w4, w5, fun b => (q6 b).trans (w6 b), w7⟩
    · exact Or.inr ⟨w1, fun b => (q6 b).trans (w2 b)⟩
  · rw [c_prl_e q1] at hR
    subst hR
    exact Or.inr ⟨q1, q2⟩
theorem c_sml (h2 : a2.length = 260) (hN : N ≤ 240) (hb : ∀ p, p < N → ∃ n, n < 256 ∧ a2.getD p 0 = nI n) {n : Nat} {r : RD} (hr : HR a2 N n r) {o : Nat} (ho : o ≤ 6) (hn : 7 ≤ n + 1 + o) : ∀ (m p : Nat) (y f53 : Int32) (a58 a59 : List Int32) (R : R6), p ≤ N → N - p ≤ m → ¬ mulS (cG a2 N p) → R = kr_readSum_6 r (nI N) a2 m y (nI p) 0 (nI o) f53 a58 a59 → oK N p o R.1 R.2.1 R.2.2.1 (fun q => (∀ b, rS (cG a2 N) N true p o b = rS (cG a2 N) N true q o b) ∧ km_sumSign (cG a2 N q) = -1) (fun e => ∀ b, rS (cG a2 N) N true p o b = .inr e) := by
  intro m
  induction m with
  | zero =>
    intro p y f53 a58 a59 R hp hm hx hR
    rw [e0_kr_readSum_6] at hR
    subst hR
    exact Or.inl ⟨p, Nat.le_refl _, hp, rfl, rfl, rfl, fun b => rfl, by rw [cG_e p (by omega)]; exact em_sign⟩
  | succ m ih =>
    intro p y f53 a58 a59 R hp hm hx hR
    rw [e_kr_readSum_6, lt_e, st_0 h2 hN hp] at hR
    by_cases c : cG a2 N p = 43 ∨ cG a2 N p = 45
    · have pl := in_of (s := cG a2 N) cG_e (p := p) (fun z => add_sg c (by rw [z]; exact em_sign))
      have A := fun b => (rS_A (s := cG a2 N) (N := N) hp o b).trans (if_neg (add_sg c))
      have e1 : (if cG a2 N p = 43 then (1 : Int32) else if cG a2 N p = 45 then 1 else 0) = 1 := by
        by_cases c1 : cG a2 N p = 43
        · rw [if_pos c1]
        · rw [if_neg c1, if_pos (by rcases c with c | c; exact absurd c c1; exact c)]
      rw [e1, if_neg (show ¬ (1 : Int32) = 0 by decide), lt_e, cG_s h2 hN hp, nJ_1 (n := p) (by omega)] at hR
      have h := c_prd h2 hN hb hr (p := p + 1) (f53 := f53) (a58 := a58) (a59 := a59) (by omega) ho hn rfl
      generalize kr_readProduct r (nI N) (nI (p + 1)) 0 (nI o) f53 a2 a58 a59 = X at h hR
      rw [lt_e, lt_e] at hR
      rcases h with ⟨q, q1, q2, q3, q4, q5, q6, q7⟩ | ⟨q1, q2⟩
      · rw [q3, q4, q5] at hR
        rcases ih q _ _ _ _ R q2 (by omega) q7 hR with ⟨w, w1, w2, w3, w4, w5, w6, w7⟩ | ⟨w1, w2⟩
        · exact Or.inl ⟨w, by omega, w2, w3, w4, w5, fun b => (A b).trans ((q6 b).trans (w6 b)), w7⟩
        · exact Or.inr ⟨w1, fun b => (A b).trans ((q6 b).trans (w2 b))⟩
      · rw [c_sml_e q1] at hR
        subst hR
        exact Or.inr ⟨q1, fun b => (A b).trans (q2 b)⟩
    · rw [if_neg (fun z => c (Or.inl z)), if_neg (fun z => c (Or.inr z)), if_pos rfl] at hR
      subst hR
      exact Or.inl ⟨p, Nat.le_refl _, hp, rfl, rfl, rfl, fun b => rfl, no_sg hx c⟩
theorem c_sum (h2 : a2.length = 260) (hN : N ≤ 240) (hb : ∀ p, p < N → ∃ n, n < 256 ∧ a2.getD p 0 = nI n) : ∀ n, HR a2 N n (kr_readSum n)
  | 0 => fun p o f53 a58 a59 hp ho hn => by omega
  | n + 1 => fun p o f53 a58 a59 hp ho hn => by
    have ih := c_sum h2 hN hb n
    have main : ∀ R : R6, R = kr_readSum_b (kr_readSum n) (nI N) (nI p) 0 (nI o) f53 a2 a58 a59 → oK N (p + 1) o R.1 R.2.1 R.2.2.1 (fun q => (∀ b, rS (cG a2 N) N false p o b = rS (cG a2 N) N true q o b) ∧ km_sumSign (cG a2 N q) = -1) (fun e => ∀ b, rS (cG a2 N) N false p o b = .inr e) := fun R hR => by
      unfold kr_readSum_b at hR
      have h := c_prd h2 hN hb ih (f53 := f53) (a58 := a58) (a59 := a59) hp ho hn rfl
      generalize kr_readProduct (kr_readSum n) (nI N) (nI p) 0 (nI o) f53 a2 a58 a59 = X at h hR
      rw [lt_e, lt_e] at hR
      have hR : R = kr_readSum_6 (kr_readSum n) (nI N) a2 240 0 X.1 X.2.1 X.2.2.1 X.2.2.2.1 X.2.2.2.2.1 X.2.2.2.2.2 := hR
      rcases h with ⟨q, q1, q2, q3, q4, q5, q6, q7⟩ | ⟨q1, q2⟩
      · rw [q3, q4, q5] at hR
        rcases c_sml h2 hN hb ih ho hn 240 q _ _ _ _ R q2 (by omega) q7 hR with ⟨w, w1, w2, w3, w4, w5, w6, w7⟩ | ⟨w1, w2⟩
        · exact Or.inl ⟨w, by omega, w2, w3, w4, w5, fun b => (q6 b).trans (w6 b), w7⟩
        · exact Or.inr ⟨w1, fun b => (q6 b).trans (w2 b)⟩
      · rw [c_sml_e q1] at hR
        subst hR
        exact Or.inr ⟨q1, q2⟩
    exact main _ rfl
theorem c_sum_e {n p e o f53 : Int32} {a58 a59 : List Int32} (he : ¬ e = 0) : ∀ k, kr_readSum k n p e o f53 a2 a58 a59 = (p, e, o, f53, a58, a59)
  | 0 => rfl
  | k + 1 => by
    have e1 : kr_readProduct (kr_readSum k) n p e o f53 a2 a58 a59 = (p, e, o, f53, a58, a59) := by
      unfold kr_readProduct
      rw [c_fac_e he, lt_e]
      show lt (kr_readProduct_6 (kr_readSum k) n a2 240 0 p e o f53 a58 a59) (fun g : R6 => ((g.1, g.2.1, g.2.2.1, g.2.2.2.1, g.2.2.2.2.1, g.2.2.2.2.2) : R6)) = _
      rw [c_prl_e he, lt_e]
    have e2 : kr_readSum_b (kr_readSum k) n p e o f53 a2 a58 a59 = (p, e, o, f53, a58, a59) := by
      unfold kr_readSum_b
      rw [e1, lt_e]
      show lt (kr_readSum_6 (kr_readSum k) n a2 240 0 p e o f53 a58 a59) (fun g : R6 => ((g.1, g.2.1, g.2.2.1, g.2.2.2.1, g.2.2.2.2.1, g.2.2.2.2.2) : R6)) = _
      rw [c_sml_e he, lt_e]
    exact e2
end PC
