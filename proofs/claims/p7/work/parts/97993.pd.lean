/-! the law's text: conditions, rules, the law, the class reads as the machine does -/
section PD
variable {N : Nat} {a2 : List Int32}
/-- a reader of pieces of a condition, at most so deep -/
noncomputable def HT (a2 : List Int32) (N n : Nat) (r : RD) : Prop := ∀ (p o : Nat) (f53 : Int32) (a58 a59 : List Int32), p ≤ N → o ≤ 6 → 7 ≤ n + o → oK N (p + 1) o (r (nI N) (nI p) 0 (nI o) f53 a2 a58 a59).1 (r (nI N) (nI p) 0 (nI o) f53 a2 a58 a59).2.1 (r (nI N) (nI p) 0 (nI o) f53 a2 a58 a59).2.2.1 (fun q => ∀ K, K ≠ [] → rC (cG a2 N) N false p o K = rC (cG a2 N) N true q (o - nots K) (drops K)) (fun e => ∀ K, K ≠ [] → rC (cG a2 N) N false p o K = .inr e)
theorem st_1 (h2 : a2.length = 260) (hN : N ≤ 240) {p : Nat} (hp : p ≤ N) {x : Int32} : kx_stands (nI N) (nI p) 0 a2 x x = if cG a2 N p = x then 1 else 0 := by
  rw [st_0 h2 hN hp]
  by_cases c : cG a2 N p = x
  · rw [if_pos c, if_pos c]
  · rw [if_neg c, if_neg c]
theorem c_pal_e {r : RD} {n p e o f53 y : Int32} {a58 a59 : List Int32} (he : ¬ e = 0) : ∀ m, (kr_readPart_6 r n a2 m y p e o f53 a58 a59) = (p, e, o, f53, a58, a59)
  | 0 => by rw [e0_kr_readPart_6]
  | m + 1 => by rw [e_kr_readPart_6, lt_e, st_e he, if_pos rfl]
theorem c_chl_e {r : RD} {n p e o f53 y : Int32} {a58 a59 : List Int32} (he : ¬ e = 0) : ∀ m, (kr_readChoice_6 r n a2 m y p e o f53 a58 a59) = (p, e, o, f53, a58, a59)
  | 0 => by rw [e0_kr_readChoice_6]
  | m + 1 => by rw [e_kr_readChoice_6, lt_e, st_e he, if_pos rfl]
theorem c_pal (h2 : a2.length = 260) (hN : N ≤ 240) {n : Nat} {r : RD} (hr : HT a2 N n r) {o : Nat} (ho : o ≤ 6) (hn : 7 ≤ n + o) : ∀ (m p : Nat) (y f53 : Int32) (a58 a59 : List Int32) (R : R6), p ≤ N → N - p ≤ m → R = kr_readPart_6 r (nI N) a2 m y (nI p) 0 (nI o) f53 a58 a59 → oK N p o R.1 R.2.1 R.2.2.1 (fun q => (∀ K, rC (cG a2 N) N true p o (false :: K) = rC (cG a2 N) N true q o (false :: K)) ∧ ¬ cG a2 N q = 38) (fun e => ∀ K, rC (cG a2 N) N true p o (false :: K) = .inr e) := by
  intro m
  induction m with
  | zero =>
    intro p y f53 a58 a59 R hp hm hR
    rw [e0_kr_readPart_6] at hR
    subst hR
    exact Or.inl ⟨p, Nat.le_refl _, hp, rfl, rfl, rfl, fun K => rfl, by rw [cG_e p (by omega)]; decide⟩
  | succ m ih =>
    intro p y f53 a58 a59 R hp hm hR
    rw [e_kr_readPart_6, lt_e, st_1 h2 hN hp] at hR
    by_cases c : cG a2 N p = 38
    · have pl := in_of (s := cG a2 N) cG_e (p := p) (by rw [c]; decide)
      have A := fun K => (rC_C (s := cG a2 N) (N := N) hp o (false :: K)).trans ((if_neg (by rw [c]; decide)).trans (if_pos (Or.inl c)))
      rw [if_pos c, if_neg (show ¬ (1 : Int32) = 0 by decide), lt_e, lt_e, lt_e, nJ_1 (n := p) (by omega)] at hR
      have h := hr (p + 1) o (kl_add_53 f53 a58 a59 38 0).2.1 (kl_add_53 f53 a58 a59 38 0).2.2.1 (kl_add_53 f53 a58 a59 38 0).2.2.2 (by omega) ho hn
      generalize r (nI N) (nI (p + 1)) 0 (nI o) (kl_add_53 f53 a58 a59 38 0).2.1 a2 (kl_add_53 f53 a58 a59 38 0).2.2.1 (kl_add_53 f53 a58 a59 38 0).2.2.2 = X at h hR
      rcases h with ⟨q, q1, q2, q3, q4, q5, q6⟩ | ⟨q1, q2⟩
      · rw [q3, q4, q5] at hR
        have q6 := fun K => q6 (false :: K) (List.cons_ne_nil _ _)
        rcases ih q _ _ _ _ R q2 (by omega) hR with ⟨w, w1, w2, w3, w4, w5, w6, w7⟩ | ⟨w1, w2⟩
        · exact Or.inl ⟨w, by omega, w2, w3, w4, w5, fun K => (A K).trans ((q6 K).trans (w6 K)), w7⟩
        · exact Or.inr ⟨w1, fun K => (A K).trans ((q6 K).trans (w2 K))⟩
      · rw [c_pal_e q1] at hR
        subst hR
        exact Or.inr ⟨q1, fun K => (A K).trans (q2 (false :: K) (List.cons_ne_nil _ _))⟩
    · rw [if_neg c, if_pos rfl] at hR
      subst hR
      exact Or.inl ⟨p, Nat.le_refl _, hp, rfl, rfl, rfl, fun K => rfl, c⟩
theorem c_par (h2 : a2.length = 260) (hN : N ≤ 240) {n : Nat} {r : RD} (hr : HT a2 N n r) {p o : Nat} {f53 : Int32} {a58 a59 : List Int32} {R : R6} (hp : p ≤ N) (ho : o ≤ 6) (hn : 7 ≤ n + o) (hR : R = kr_readPart r (nI N) (nI p) 0 (nI o) f53 a2 a58 a59) : oK N (p + 1) o R.1 R.2.1 R.2.2.1 (fun q => (∀ K, rC (cG a2 N) N false p o (false :: K) = rC (cG a2 N) N true q o (false :: K)) ∧ ¬ cG a2 N q = 38) (fun e => ∀ K, rC (cG a2 N) N false p o (false :: K) = .inr e) := by
  unfold kr_readPart at hR
  have h := hr p o f53 a58 a59 hp ho hn
  generalize r (nI N) (nI p) 0 (nI o) f53 a2 a58 a59 = X at h hR
  rw [lt_e, lt_e] at hR
  have hR : R = kr_readPart_6 r (nI N) a2 240 0 X.1 X.2.1 X.2.2.1 X.2.2.2.1 X.2.2.2.2.1 X.2.2.2.2.2 := hR
  rcases h with ⟨q, q1, q2, q3, q4, q5, q6⟩ | ⟨q1, q2⟩
  · rw [q3, q4, q5] at hR
    have q6 := fun K => q6 (false :: K) (List.cons_ne_nil _ _)
    rcases c_pal h2 hN hr ho hn 240 q _ _ _ _ R q2 (by omega) hR with ⟨w, w1, w2, w3, w4, w5, w6, w7⟩ | ⟨w1, w2⟩
    · exact Or.inl ⟨w, by omega, w2, w3, w4, w5, fun K => (q6 K).trans (w6 K), w7⟩
    · exact Or.inr ⟨w1, fun K => (q6 K).trans (w2 K)⟩
  · rw [c_pal_e q1] at hR
    subst hR
    exact Or.inr ⟨q1, fun K => q2 (false :: K) (List.cons_ne_nil _ _)⟩
theorem c_chl (h2 : a2.length = 260) (hN : N ≤ 240) {n : Nat} {r : RD} (hr : HT a2 N n r) {o : Nat} (ho : o ≤ 6) (hn : 7 ≤ n + o) : ∀ (m p : Nat) (y f53 : Int32) (a58 a59 : List Int32) (R : R6), p ≤ N → N - p ≤ m → ¬ cG a2 N p = 38 → R = kr_readChoice_6 r (nI N) a2 m y (nI p) 0 (nI o) f53 a58 a59 → oK N p o R.1 R.2.1 R.2.2.1 (fun q => (∀ K, rC (cG a2 N) N true p o (false :: K) = rC (cG a2 N) N true q o (false :: K)) ∧ ¬ cG a2 N q = 38 ∧ ¬ cG a2 N q = 124) (fun e => ∀ K, rC (cG a2 N) N true p o (false :: K) = .inr e) := by
  intro m
  induction m with
  | zero =>
    intro p y f53 a58 a59 R hp hm hx hR
    rw [e0_kr_readChoice_6] at hR
    subst hR
    exact Or.inl ⟨p, Nat.le_refl _, hp, rfl, rfl, rfl, fun K => rfl, hx, by rw [cG_e p (by omega)]; decide⟩
  | succ m ih =>
    intro p y f53 a58 a59 R hp hm hx hR
    rw [e_kr_readChoice_6, lt_e, st_1 h2 hN hp] at hR
    by_cases c : cG a2 N p = 124
    · have pl := in_of (s := cG a2 N) cG_e (p := p) (by rw [c]; decide)
      have A := fun K => (rC_C (s := cG a2 N) (N := N) hp o (false :: K)).trans ((if_neg (by rw [c]; decide)).trans (if_pos (Or.inr c)))
      rw [if_pos c, if_neg (show ¬ (1 : Int32) = 0 by decide), lt_e, lt_e, lt_e, nJ_1 (n := p) (by omega)] at hR
      have h := c_par h2 hN hr (p := p + 1) (f53 := (kl_add_53 f53 a58 a59 124 0).2.1) (a58 := (kl_add_53 f53 a58 a59 124 0).2.2.1) (a59 := (kl_add_53 f53 a58 a59 124 0).2.2.2) (by omega) ho hn rfl
      generalize kr_readPart r (nI N) (nI (p + 1)) 0 (nI o) (kl_add_53 f53 a58 a59 124 0).2.1 a2 (kl_add_53 f53 a58 a59 124 0).2.2.1 (kl_add_53 f53 a58 a59 124 0).2.2.2 = X at h hR
      rcases h with ⟨q, q1, q2, q3, q4, q5, q6, q7⟩ | ⟨q1, q2⟩
      · rw [q3, q4, q5] at hR
        rcases ih q _ _ _ _ R q2 (by omega) q7 hR with ⟨w, w1, w2, w3, w4, w5, w6, w7⟩ | ⟨w1, w2⟩
        · exact Or.inl ⟨w, by omega, w2, w3, w4, w5, fun K => (A K).trans ((q6 K).trans (w6 K)), w7⟩
        · exact Or.inr ⟨w1, fun K => (A K).trans ((q6 K).trans (w2 K))⟩
      · rw [c_chl_e q1] at hR
        subst hR
        exact Or.inr ⟨q1, fun K => (A K).trans (q2 K)⟩
    · rw [if_neg c, if_pos rfl] at hR
      subst hR
      exact Or.inl ⟨p, Nat.le_refl _, hp, rfl, rfl, rfl, fun K => rfl, hx, c⟩
theorem c_cho (h2 : a2.length = 260) (hN : N ≤ 240) {n : Nat} {r : RD} (hr : HT a2 N n r) {p o : Nat} {f53 : Int32} {a58 a59 : List Int32} {R : R6} (hp : p ≤ N) (ho : o ≤ 6) (hn : 7 ≤ n + o) (hR : R = kr_readChoice r (nI N) (nI p) 0 (nI o) f53 a2 a58 a59) : oK N (p + 1) o R.1 R.2.1 R.2.2.1 (fun q => (∀ K, rC (cG a2 N) N false p o (false :: K) = rC (cG a2 N) N true q o (false :: K)) ∧ ¬ cG a2 N q = 38 ∧ ¬ cG a2 N q = 124) (fun e => ∀ K, rC (cG a2 N) N false p o (false :: K) = .inr e) := by
  unfold kr_readChoice at hR
  have h := c_par h2 hN hr (f53 := f53) (a58 := a58) (a59 := a59) hp ho hn rfl
  generalize kr_readPart r (nI N) (nI p) 0 (nI o) f53 a2 a58 a59 = X at h hR
  rw [lt_e, lt_e] at hR
  have hR : R = kr_readChoice_6 r (nI N) a2 240 0 X.1 X.2.1 X.2.2.1 X.2.2.2.1 X.2.2.2.2.1 X.2.2.2.2.2 := hR
  rcases h with ⟨q, q1, q2, q3, q4, q5, q6, q7⟩ | ⟨q1, q2⟩
  · rw [q3, q4, q5] at hR
    rcases c_chl h2 hN hr ho hn 240 q _ _ _ _ R q2 (by omega) q7 hR with ⟨w, w1, w2, w3, w4, w5, w6, w7⟩ | ⟨w1, w2⟩
    · exact Or.inl ⟨w, by omega, w2, w3, w4, w5, fun K => (q6 K).trans (w6 K), w7⟩
    · exact Or.inr ⟨w1, fun K => (q6 K).trans (w2 K)⟩
  · rw [c_chl_e q1] at hR
    subst hR
    exact Or.inr ⟨q1, q2⟩
/-- a condition in brackets -/
theorem c_brk (h2 : a2.length = 260) (hN : N ≤ 240) {n : Nat} {r : RD} (hr : HT a2 N n r) {p o : Nat} {f53 : Int32} {a58 a59 : List Int32} {R : R6} (hp : p ≤ N) (ho : o ≤ 6) (hn : 7 ≤ n + 1 + o) (hR : R = kr_readBracketed r (nI N) (nI p) 0 (nI o) f53 a2 a58 a59) : oK N (p + 1) o R.1 R.2.1 R.2.2.1 (fun w => cG a2 N p = 40 ∧ o < 6 ∧ ∃ q, w = q + 1 ∧ q ≤ N ∧ cG a2 N q = 41 ∧ ∀ K, rC (cG a2 N) N false (p + 1) (o + 1) (false :: K) = rC (cG a2 N) N true q (o + 1) (false :: K)) (fun e => (¬ cG a2 N p = 40 ∧ e = eF 1 p) ∨ (cG a2 N p = 40 ∧ o = 6 ∧ e = eF 5 p) ∨ (cG a2 N p = 40 ∧ o < 6 ∧ ∀ K, rC (cG a2 N) N false (p + 1) (o + 1) (false :: K) = .inr e)) := by
  have e0 := eF_0 p (by omega)
  unfold kr_readBracketed at hR
  rw [lt_e] at hR
  by_cases c : cG a2 N p = 40
  · have pl := in_of (s := cG a2 N) cG_e (p := p) (by rw [c]; decide)
    by_cases o6 : o = 6
    · subst o6
      rw [op_6 h2 hN hp c] at hR
      have hR : R = (nI p, eF 5 p, nI 6, f53, a58, a59) := hR.trans (if_pos rfl)
      subst hR
      exact Or.inr ⟨e0.2.2.2, Or.inr (Or.inl ⟨c, rfl, rfl⟩)⟩
    · rw [op_y h2 hN hp (by omega) c] at hR
      have hR := hR.trans (if_neg (show ¬ (1 : Int32) = 0 by decide))
      have h := c_cho h2 hN hr (p := p + 1) (o := o + 1) (f53 := f53) (a58 := a58) (a59 := a59) (by omega) (by omega) (by omega) rfl
      have hR : R = ((kx_pass (nI N) (kr_readChoice r (nI N) (nI (p + 1)) 0 (nI (o + 1)) f53 a2 a58 a59).1 (kr_readChoice r (nI N) (nI (p + 1)) 0 (nI (o + 1)) f53 a2 a58 a59).2.1 a2 41).1, (kx_pass (nI N) (kr_readChoice r (nI N) (nI (p + 1)) 0 (nI (o + 1)) f53 a2 a58 a59).1 (kr_readChoice r (nI N) (nI (p + 1)) 0 (nI (o + 1)) f53 a2 a58 a59).2.1 a2 41).2, ((kr_readChoice r (nI N) (nI (p + 1)) 0 (nI (o + 1)) f53 a2 a58 a59).2.2.1 - 1), (kr_readChoice r (nI N) (nI (p + 1)) 0 (nI (o + 1)) f53 a2 a58 a59).2.2.2.1, (kr_readChoice r (nI N) (nI (p + 1)) 0 (nI (o + 1)) f53 a2 a58 a59).2.2.2.2.1, (kr_readChoice r (nI N) (nI (p + 1)) 0 (nI (o + 1)) f53 a2 a58 a59).2.2.2.2.2) := hR
      generalize kr_readChoice r (nI N) (nI (p + 1)) 0 (nI (o + 1)) f53 a2 a58 a59 = X at h hR
      rcases h with ⟨q, q1, q2, q3, q4, q5, q6, q7, q8⟩ | ⟨q1, q2⟩
      · rw [q3, q4, q5, ps_0 h2 hN q2] at hR
        by_cases d : cG a2 N q = 41
        · have := in_of (s := cG a2 N) cG_e (p := q) (by rw [d]; decide)
          rw [if_pos d] at hR
          subst hR
          refine Or.inl ⟨q + 1, by omega, by omega, rfl, rfl, ?_, c, by omega, q, rfl, q2, d, q6⟩
          show nI (o + 1) - 1 = nI o
          rw [← nJ_1 (n := o) (by omega), Int32.add_sub_cancel]
        · rw [if_neg d] at hR
          subst hR
          exact Or.inr ⟨(eF_0 q (by omega)).1, Or.inr (Or.inr ⟨c, by omega, fun K => (q6 K).trans ((rC_C (s := cG a2 N) (N := N) q2 (o + 1) (false :: K)).trans ((if_neg d).trans (if_neg (fun z => by rcases z with z | z; exact q7 z; exact q8 z))))⟩)⟩
      · rw [ps_e q1] at hR
        subst hR
        exact Or.inr ⟨q1, Or.inr (Or.inr ⟨c, by omega, q2⟩)⟩
  · rw [op_n h2 hN hp c] at hR
    have hR : R = (nI p, eF 1 p, nI o, f53, a58, a59) := hR.trans (if_pos rfl)
    subst hR
    exact Or.inr ⟨e0.1, Or.inl ⟨c, rfl⟩⟩
theorem c_brk_e {r : RD} {n p e o f53 : Int32} {a58 a59 : List Int32} (he : ¬ e = 0) : kr_readBracketed r n p e o f53 a2 a58 a59 = (p, e, o, f53, a58, a59) := by
  unfold kr_readBracketed
  have ho : kr_opens n p e o a2 40 = (0, p, e, o) := by
    unfold kr_opens
    rw [if_neg he, lt_e, ps_e he]
    exact if_neg he
  rw [lt_e, ho]
  exact if_pos rfl
theorem c_tst_b (h2 : a2.length = 260) (hN : N ≤ 240) (hb : ∀ p, p < N → ∃ n, n < 256 ∧ a2.getD p 0 = nI n) {f n : Nat} (hf : 7 ≤ f) {r : RD} (hr : HT a2 N n r) {p o : Nat} {f53 : Int32} {a58 a59 : List Int32} {R : R6} (hp : p ≤ N) (ho : o ≤ 6) (hn : 7 ≤ n + 1 + o) (hR : R = kr_readTest_b r f (nI N) (nI p) 0 (nI o) f53 a2 a58 a59) : oK N (p + 1) o R.1 R.2.1 R.2.2.1 (fun q => ∀ K, K ≠ [] → rC (cG a2 N) N false p o K = rC (cG a2 N) N true q (o - nots K) (drops K)) (fun e => ∀ K, K ≠ [] → rC (cG a2 N) N false p o K = .inr e) := by
  have e0 := eF_0 p (by omega)
  have hF := fun K => rC_B (s := cG a2 N) cG_e hp o K
  unfold kr_readTest_b at hR
  rw [lt_e, st_1 h2 hN hp] at hR
  by_cases c : cG a2 N p = 33
  · have pl := in_of (s := cG a2 N) cG_e (p := p) (by rw [c]; decide)
    have hF := fun K => (hF K).trans (if_pos c)
    rw [if_pos c, if_neg (show ¬ (1 : Int32) = 0 by decide), lt_e] at hR
    by_cases o6 : o = 6
    · subst o6
      rw [op_6 h2 hN hp c] at hR
      have hR : R = (nI p, eF 5 p, nI 6, f53, a58, a59) := hR.trans (if_pos rfl)
      subst hR
      exact Or.inr ⟨e0.2.2.2, fun K _ => (hF K).trans (if_pos rfl)⟩
    · have hF := fun K => (hF K).trans (if_neg o6)
      rw [op_y h2 hN hp (by omega) c] at hR
      have hR := hR.trans (if_neg (show ¬ (1 : Int32) = 0 by decide))
      have h := hr (p + 1) (o + 1) f53 a58 a59 (by omega) (by omega) (by omega)
      have hR1 : R.1 = (r (nI N) (nI (p + 1)) 0 (nI (o + 1)) f53 a2 a58 a59).1 := (congrArg (fun z : R6 => z.1) hR).trans rfl
      have hR2 : R.2.1 = (r (nI N) (nI (p + 1)) 0 (nI (o + 1)) f53 a2 a58 a59).2.1 := (congrArg (fun z : R6 => z.2.1) hR).trans rfl
      have hR3 : R.2.2.1 = (r (nI N) (nI (p + 1)) 0 (nI (o + 1)) f53 a2 a58 a59).2.2.1 - 1 := (congrArg (fun z : R6 => z.2.2.1) hR).trans rfl
      rw [hR1, hR2, hR3]
      rcases h with ⟨q, q1, q2, q3, q4, q5, q6⟩ | ⟨q1, q2⟩
      · refine Or.inl ⟨q, by omega, q2, q3, q4, ?_, fun K hK => (hF K).trans ((q6 (true :: K) (List.cons_ne_nil _ _)).trans ?_)⟩
        · rw [q5, ← nJ_1 (n := o) (by omega), Int32.add_sub_cancel]
        · show rC (cG a2 N) N true q (o + 1 - (nots K + 1)) (drops K) = _
          rw [show o + 1 - (nots K + 1) = o - nots K by omega]
      · exact Or.inr ⟨q1, fun K hK => (hF K).trans (q2 (true :: K) (List.cons_ne_nil _ _))⟩
  · have hF := fun K => (hF K).trans (if_neg c)
    rw [if_neg c, if_pos rfl, lt_e, st_1 h2 hN hp] at hR
    by_cases c4 : cG a2 N p = 40
    · have hF := fun K => (hF K).trans (if_pos c4)
      rw [if_pos c4, if_neg (show ¬ (1 : Int32) = 0 by decide), lt_e] at hR
      have hR : R = kr_readBracketed r (nI N) (nI p) 0 (nI o) f53 a2 a58 a59 := hR
      rcases c_brk h2 hN hr hp ho hn hR with ⟨w, w1, w2, w3, w4, w5, -, o6, q, rfl, w6, w7, w8⟩ | ⟨w1, w2⟩
      · refine Or.inl ⟨q + 1, w1, w2, w3, w4, w5, fun K hK => (hF K).trans ((if_neg (by omega)).trans ((w8 K).trans ((rC_C (s := cG a2 N) (N := N) w6 (o + 1) (false :: K)).trans ((if_pos w7).trans (if_neg hK)))))⟩
      · refine Or.inr ⟨w1, fun K hK => (hF K).trans ?_⟩
        rcases w2 with ⟨w2, -⟩ | ⟨-, w2, w3⟩ | ⟨-, w2, w3⟩
        · exact absurd c4 w2
        · rw [if_pos w2, w3]
        · rw [if_neg (by omega)]
          exact w3 K
    · have hF := fun K => (hF K).trans (if_neg c4)
      rw [if_neg c4, if_pos rfl, lt_e, lt_e] at hR
      have h := c_sum h2 hN hb f p o f53 a58 a59 hp ho (by omega)
      generalize kr_readSum f (nI N) (nI p) 0 (nI o) f53 a2 a58 a59 = X at h hR
      -- a second sum
      have two : ∀ (q : Nat) (y : Int32) (S : R6) , p < q → q ≤ N → X.1 = nI q → X.2.1 = 0 → X.2.2.1 = nI o → (∀ b, rS (cG a2 N) N false p o b = rS (cG a2 N) N true q o b) → km_sumSign (cG a2 N q) = -1 → (cG a2 N q = 60 ∨ cG a2 N q = 62 ∨ cG a2 N q = 61) → S = kr_readSum f (nI N) (X.1 + 1) X.2.1 X.2.2.1 X.2.2.2.1 a2 X.2.2.2.2.1 X.2.2.2.2.2 → R.1 = S.1 → R.2.1 = S.2.1 → R.2.2.1 = S.2.2.1 → oK N (p + 1) o R.1 R.2.1 R.2.2.1 (fun q => ∀ K, K ≠ [] → rC (cG a2 N) N false p o K = rC (cG a2 N) N true q (o - nots K) (drops K)) (fun e => ∀ K, K ≠ [] → rC (cG a2 N) N false p o K = .inr e) := fun q y S q0 q2 q3 q4 q5 q6 q7 hw hS h1 h3 h4 => by
        have pl := in_of (s := cG a2 N) cG_e (p := q) (fun z => by rw [z] at hw; rcases hw with d | d | d <;> exact absurd d (by decide))
        have E1 : rS (cG a2 N) N false p o 0 = .inl q := (q6 0).trans ((rS_A (s := cG a2 N) (N := N) q2 o 0).trans ((if_pos q7).trans ((if_neg (fun z => by omega)).trans (if_neg (by omega)))))
        have hF := fun K => hF K
        rw [q3, q4, q5, nJ_1 (n := q) (by omega)] at hS
        have h := c_sum h2 hN hb f (q + 1) o X.2.2.2.1 X.2.2.2.2.1 X.2.2.2.2.2 (by omega) ho (by omega)
        rw [← hS, ← h1, ← h3, ← h4] at h
        rcases h with ⟨w, w1, w2, w3, w4, w5, w6, w7⟩ | ⟨w1, w2⟩
        · have E2 : rS (cG a2 N) N false (q + 1) o 0 = .inl w := (w6 0).trans ((rS_A (s := cG a2 N) (N := N) w2 o 0).trans ((if_pos w7).trans ((if_neg (fun z => by omega)).trans (if_neg (by omega)))))
          refine Or.inl ⟨w, by omega, w2, w3, w4, w5, fun K hK => ?_⟩
          have g := hF K
          rw [E1] at g
          have g : rC (cG a2 N) N false p o K = (if cG a2 N q = 60 ∨ cG a2 N q = 62 ∨ cG a2 N q = 61 then (match rS (cG a2 N) N false (q + 1) o 0 with | .inr e => .inr e | .inl q2 => rC (cG a2 N) N true q2 (o - nots K) (drops K)) else .inr (eF 1 q)) := g
          rw [if_pos hw, E2] at g
          exact g
        · refine Or.inr ⟨w1, fun K hK => ?_⟩
          have g := hF K
          rw [E1] at g
          have g : rC (cG a2 N) N false p o K = (if cG a2 N q = 60 ∨ cG a2 N q = 62 ∨ cG a2 N q = 61 then (match rS (cG a2 N) N false (q + 1) o 0 with | .inr e => .inr e | .inl q2 => rC (cG a2 N) N true q2 (o - nots K) (drops K)) else .inr (eF 1 q)) := g
          rw [if_pos hw, w2 0] at g
          exact g
      rcases h with ⟨q, q1, q2, q3, q4, q5, q6, q7⟩ | ⟨q1, q2⟩
      · have es : kx_sign (nI N) X.1 a2 = cG a2 N q := by rw [q3, cG_s h2 hN q2]
        rw [es] at hR
        by_cases d1 : cG a2 N q = 60
        · rw [if_pos d1, if_pos q4] at hR
          exact two q 0 _ (by omega) q2 q3 q4 q5 q6 q7 (Or.inl d1) rfl ((congrArg (fun z : R6 => z.1) hR).trans rfl) ((congrArg (fun z : R6 => z.2.1) hR).trans rfl) ((congrArg (fun z : R6 => z.2.2.1) hR).trans rfl)
        · rw [if_neg d1] at hR
          by_cases d2 : cG a2 N q = 62
          · rw [if_pos d2, if_pos q4] at hR
            exact two q 0 _ (by omega) q2 q3 q4 q5 q6 q7 (Or.inr (Or.inl d2)) rfl ((congrArg (fun z : R6 => z.1) hR).trans rfl) ((congrArg (fun z : R6 => z.2.1) hR).trans rfl) ((congrArg (fun z : R6 => z.2.2.1) hR).trans rfl)
          · rw [if_neg d2] at hR
            by_cases d3 : cG a2 N q = 61
            · rw [if_pos d3, if_pos q4] at hR
              exact two q 0 _ (by omega) q2 q3 q4 q5 q6 q7 (Or.inr (Or.inr d3)) rfl ((congrArg (fun z : R6 => z.1) hR).trans rfl) ((congrArg (fun z : R6 => z.2.1) hR).trans rfl) ((congrArg (fun z : R6 => z.2.2.1) hR).trans rfl)
            · have e1 := (eF_0 q (by omega)).1
              rw [if_neg d3, lt_e, q3, q4, fl_0] at hR
              have hR := hR.trans (if_neg e1)
              have E1 : rS (cG a2 N) N false p o 0 = .inl q := (q6 0).trans ((rS_A (s := cG a2 N) (N := N) q2 o 0).trans ((if_pos q7).trans ((if_neg (fun z => by omega)).trans (if_neg (by omega)))))
              subst hR
              refine Or.inr ⟨e1, fun K hK => ?_⟩
              have g := hF K
              rw [E1] at g
              exact g.trans (if_neg (fun z => by rcases z with z | z | z; exact d1 z; exact d2 z; exact d3 z))
      · have B : R.2.1 = X.2.1 := by
          generalize kx_sign (nI N) X.1 a2 = y at hR
          by_cases d1 : y = 60
          · rw [if_pos d1, if_neg q1] at hR
            exact congrArg (fun z : R6 => z.2.1) hR
          · rw [if_neg d1] at hR
            by_cases d2 : y = 62
            · rw [if_pos d2, if_neg q1] at hR
              exact congrArg (fun z : R6 => z.2.1) hR
            · rw [if_neg d2] at hR
              by_cases d3 : y = 61
              · rw [if_pos d3, if_neg q1] at hR
                exact congrArg (fun z : R6 => z.2.1) hR
              · have ef : kx_fail X.1 X.2.1 1 = (-1, X.2.1) := by
                  unfold kx_fail
                  rw [if_neg q1]
                rw [if_neg d3, lt_e, ef] at hR
                have hR := hR.trans (if_neg q1)
                exact congrArg (fun z : R6 => z.2.1) hR
        rw [B]
        refine Or.inr ⟨q1, fun K hK => ?_⟩
        have g := hF K
        rw [q2 0] at g
        exact g
theorem c_tst (h2 : a2.length = 260) (hN : N ≤ 240) (hb : ∀ p, p < N → ∃ n, n < 256 ∧ a2.getD p 0 = nI n) {f : Nat} (hf : 7 ≤ f) : ∀ n, HT a2 N n (kr_readTest f n)
  | 0 => fun p o f53 a58 a59 hp ho hn => by omega
  | n + 1 => fun p o f53 a58 a59 hp ho hn => c_tst_b h2 hN hb hf (c_tst h2 hN hb hf n) hp ho hn rfl
abbrev R10 : Type := Int32 × Int32 × Int32 × Int32 × List Int32 × List Int32 × List Int32 × List Int32 × List Int32 × List Int32
theorem c_con (h2 : a2.length = 260) (hN : N ≤ 240) {n : Nat} {r : RD} (hr : HT a2 N n r) {p : Nat} {f53 : Int32} {a58 a59 : List Int32} {R : R6} (hp : p ≤ N) (hn : 6 ≤ n) (hR : R = kr_readBracketed r (nI N) (nI p) 0 (nI 0) f53 a2 a58 a59) : oK N (p + 1) 0 R.1 R.2.1 R.2.2.1 (fun q => cS (cG a2 N) N p = .inl q) (fun e => cS (cG a2 N) N p = .inr e) := by
  rcases c_brk h2 hN hr hp (by omega) (by omega) hR with ⟨w, w1, w2, w3, w4, w5, c, -, q, rfl, w6, w7, w8⟩ | ⟨w1, w2⟩
  · exact Or.inl ⟨q + 1, w1, w2, w3, w4, w5, (if_pos c).trans ((w8 []).trans ((rC_C (s := cG a2 N) (N := N) w6 1 [false]).trans ((if_pos w7).trans (if_pos rfl))))⟩
  · refine Or.inr ⟨w1, ?_⟩
    rcases w2 with ⟨w2, w3⟩ | ⟨-, w2, -⟩ | ⟨w2, -, w3⟩
    · exact (if_neg w2).trans (by rw [w3])
    · omega
    · exact (if_pos w2).trans (w3 [])
theorem c_rul_e {f : Nat} {n p e o f53 x : Int32} {a54 a55 a56 a57 a58 a59 : List Int32} (he : ¬ e = 0) : kr_readRule f n p e o f53 a2 a54 a55 a56 a57 a58 a59 x = (p, e, o, f53, a54, a55, a56, a57, a58, a59) := by
  unfold kr_readRule
  rw [if_neg he]
theorem c_rul (h2 : a2.length = 260) (hN : N ≤ 240) (hb : ∀ p, p < N → ∃ n, n < 256 ∧ a2.getD p 0 = nI n) {f : Nat} (hf : 7 ≤ f) {p r : Nat} {f53 : Int32} {a54 a55 a56 a57 a58 a59 : List Int32} {R : R10} (hp : p ≤ N) (hr : r ≤ 16) (hR : R = kr_readRule f (nI N) (nI p) 0 (nI 0) f53 a2 a54 a55 a56 a57 a58 a59 (nI r)) : oK N (p + 1) 0 R.1 R.2.1 R.2.2.1 (fun q => uS (cG a2 N) N p r = .inl q) (fun e => uS (cG a2 N) N p r = .inr e) := by
  have e0 := eF_0 p (by omega)
  have er := nI_toInt (n := r) (by omega)
  have hT := c_tst h2 hN hb hf f
  unfold kr_readRule at hR
  rw [if_pos rfl, lt_e, cG_s h2 hN hp] at hR
  have r16 : ∀ {T : Type} {a b : T}, (if (nI r).toInt < 16 then a else b) = if r = 16 then b else a := fun {T a b} => by
    by_cases c : r = 16
    · rw [if_pos c, if_neg (by omega)]
    · rw [if_neg c, if_pos (by omega)]
  rw [r16, r16] at hR
  have U4 : (cG a2 N p = 101 ∨ cG a2 N p = 107 ∨ cG a2 N p = 100 ∨ cG a2 N p = 120) → r = 16 → uS (cG a2 N) N p r = .inr (eF 4 p) := fun h1 h3 => (if_pos h1).trans (if_pos h3)
  -- a letter with an amount
  have amt : (cG a2 N p = 101 ∨ cG a2 N p = 107 ∨ cG a2 N p = 100) → ¬ r = 16 → ∀ S : R6, S = kr_readSum f (nI N) (nI p + 1) 0 (nI 0) f53 a2 a58 a59 → ∀ V : R6, V = kr_readBracketed (kr_readTest f f) (nI N) S.1 S.2.1 S.2.2.1 S.2.2.2.1 a2 S.2.2.2.2.1 S.2.2.2.2.2 → R.1 = V.1 → R.2.1 = V.2.1 → R.2.2.1 = V.2.2.1 → oK N (p + 1) 0 R.1 R.2.1 R.2.2.1 (fun q => uS (cG a2 N) N p r = .inl q) (fun e => uS (cG a2 N) N p r = .inr e) := fun hl hr S hS V hV h1 h3 h4 => by
    have pl := in_of (s := cG a2 N) cG_e (p := p) (fun z => by rw [z] at hl; rcases hl with d | d | d <;> exact absurd d (by decide))
    have n120 : ¬ cG a2 N p = 120 := fun z => by rw [z] at hl; rcases hl with d | d | d <;> exact absurd d (by decide)
    have U : uS (cG a2 N) N p r = (match rS (cG a2 N) N false (p + 1) 0 0 with | .inr e => .inr e | .inl q => cS (cG a2 N) N q) := (if_pos (by rcases hl with d | d | d; exact Or.inl d; exact Or.inr (Or.inl d); exact Or.inr (Or.inr (Or.inl d)))).trans ((if_neg hr).trans (if_neg n120))
    rw [nJ_1 (n := p) (by omega)] at hS
    have h := c_sum h2 hN hb f (p + 1) 0 f53 a58 a59 (by omega) (by omega) (by omega)
    rw [← hS] at h
    rw [h1, h3, h4]
    rcases h with ⟨q, q1, q2, q3, q4, q5, q6, q7⟩ | ⟨q1, q2⟩
    · have E1 : rS (cG a2 N) N false (p + 1) 0 0 = .inl q := (q6 0).trans ((rS_A (s := cG a2 N) (N := N) q2 0 0).trans ((if_pos q7).trans ((if_neg (fun z => by omega)).trans (if_neg (by omega)))))
      rw [E1] at U
      rw [q3, q4, q5] at hV
      rcases c_con h2 hN hT q2 (by omega) hV with ⟨w, w1, w2, w3, w4, w5, w6⟩ | ⟨w1, w2⟩
      · exact Or.inl ⟨w, by omega, w2, w3, w4, w5, U.trans w6⟩
      · exact Or.inr ⟨w1, U.trans w2⟩
    · rw [c_brk_e q1] at hV
      rw [q2 0] at U
      subst hV
      exact Or.inr ⟨q1, U⟩
  have no4 : ∀ {x : Int32 × Int32}, x = kx_fail (nI p) 0 4 → (cG a2 N p = 101 ∨ cG a2 N p = 107 ∨ cG a2 N p = 100 ∨ cG a2 N p = 120) → r = 16 → R.2.1 = x.2 → oK N (p + 1) 0 R.1 R.2.1 R.2.2.1 (fun q => uS (cG a2 N) N p r = .inl q) (fun e => uS (cG a2 N) N p r = .inr e) := fun {x} hx h1 h3 h4 => by
    rw [fl_0] at hx
    subst hx
    rw [h4]
    exact Or.inr ⟨e0.2.2.1, U4 h1 h3⟩
  by_cases l1 : cG a2 N p = 101
  · rw [if_pos l1] at hR
    by_cases c : r = 16
    · rw [if_pos c, lt_e] at hR
      exact no4 rfl (Or.inl l1) c ((congrArg (fun z : R10 => z.2.1) hR).trans rfl)
    · rw [if_neg c, if_neg (show ¬ cG a2 N p = 120 by rw [l1]; decide), lt_e, lt_e] at hR
      exact amt (Or.inl l1) c _ rfl _ rfl ((congrArg (fun z : R10 => z.1) hR).trans rfl) ((congrArg (fun z : R10 => z.2.1) hR).trans rfl) ((congrArg (fun z : R10 => z.2.2.1) hR).trans rfl)
  · rw [if_neg l1] at hR
    by_cases l2 : cG a2 N p = 107
    · rw [if_pos l2] at hR
      by_cases c : r = 16
      · rw [if_pos c, lt_e] at hR
        exact no4 rfl (Or.inr (Or.inl l2)) c ((congrArg (fun z : R10 => z.2.1) hR).trans rfl)
      · rw [if_neg c, if_neg (show ¬ cG a2 N p = 120 by rw [l2]; decide), lt_e, lt_e] at hR
        exact amt (Or.inr (Or.inl l2)) c _ rfl _ rfl ((congrArg (fun z : R10 => z.1) hR).trans rfl) ((congrArg (fun z : R10 => z.2.1) hR).trans rfl) ((congrArg (fun z : R10 => z.2.2.1) hR).trans rfl)
    · rw [if_neg l2] at hR
      by_cases l3 : cG a2 N p = 100
      · rw [if_pos l3] at hR
        by_cases c : r = 16
        · rw [if_pos c, lt_e] at hR
          exact no4 rfl (Or.inr (Or.inr (Or.inl l3))) c ((congrArg (fun z : R10 => z.2.1) hR).trans rfl)
        · rw [if_neg c, if_neg (show ¬ cG a2 N p = 120 by rw [l3]; decide), lt_e, lt_e] at hR
          exact amt (Or.inr (Or.inr l3)) c _ rfl _ rfl ((congrArg (fun z : R10 => z.1) hR).trans rfl) ((congrArg (fun z : R10 => z.2.1) hR).trans rfl) ((congrArg (fun z : R10 => z.2.2.1) hR).trans rfl)
      · rw [if_neg l3] at hR
        by_cases l4 : cG a2 N p = 120
        · rw [if_pos l4] at hR
          by_cases c : r = 16
          · rw [if_pos c, lt_e] at hR
            exact no4 rfl (Or.inr (Or.inr (Or.inr l4))) c ((congrArg (fun z : R10 => z.2.1) hR).trans rfl)
          · have pl := in_of (s := cG a2 N) cG_e (p := p) (by rw [l4]; decide)
            rw [if_neg c, lt_e, nJ_1 (n := p) (by omega)] at hR
            have h1 := congrArg (fun z : R10 => z.1) hR
            have h3 := congrArg (fun z : R10 => z.2.1) hR
            have h4 := congrArg (fun z : R10 => z.2.2.1) hR
            have U : uS (cG a2 N) N p r = cS (cG a2 N) N (p + 1) := (if_pos (Or.inr (Or.inr (Or.inr l4)))).trans ((if_neg c).trans (if_pos l4))
            rcases c_con h2 hN hT (p := p + 1) (f53 := f53) (a58 := a58) (a59 := a59) (by omega) (by omega) rfl with ⟨w, w1, w2, w3, w4, w5, w6⟩ | ⟨w1, w2⟩
            · exact Or.inl ⟨w, by omega, w2, h1.trans w3, h3.trans w4, h4.trans w5, U.trans w6⟩
            · exact Or.inr ⟨fun z => w1 (h3.symm.trans z), U.trans (w2.trans (congrArg Sum.inr h3.symm))⟩
        · rw [if_neg l4, lt_e, fl_0] at hR
          have h3 := congrArg (fun z : R10 => z.2.1) hR
          exact Or.inr ⟨fun z => e0.1 (h3.symm.trans z), (if_neg (fun z => by rcases z with z | z | z | z; exact l1 z; exact l2 z; exact l3 z; exact l4 z)).trans (congrArg Sum.inr h3.symm)⟩
abbrev R12t : Type := Int32 × Int32 × Int32 × Int32 × Int32 × Int32 × List Int32 × List Int32 × List Int32 × List Int32 × List Int32 × List Int32
theorem uS_16 {s : Nat → Int32} {p q : Nat} (h : uS s N p 16 = .inl q) : False := by
  unfold uS at h
  by_cases c : s p = 101 ∨ s p = 107 ∨ s p = 100 ∨ s p = 120
  · rw [if_pos c, if_pos rfl] at h
    cases h
  · rw [if_neg c] at h
    cases h
theorem c_law (h2 : a2.length = 260) (hN : N ≤ 240) (hb : ∀ p, p < N → ∃ n, n < 256 ∧ a2.getD p 0 = nI n) {f : Nat} (hf : 7 ≤ f) : ∀ (m r p : Nat) (f530 f53 : Int32) (a54 a55 a56 a57 a58 a59 : List Int32) (T : R12t), r + m = 17 → r ≤ 16 → p ≤ N → T = kr_readLaw_23 f (nI N) a2 m (nI r) (nI p) 0 (nI 0) f530 f53 a54 a55 a56 a57 a58 a59 → T.1 = if r = 0 then lS (cG a2 N) N m r p else if cG a2 N p = 59 then lS (cG a2 N) N m r (p + 1) else eF 1 p := by
  intro m
  induction m with
  | zero =>
    intro r p f530 f53 a54 a55 a56 a57 a58 a59 T hr hr16
    omega
  | succ m ih =>
    intro r p f530 f53 a54 a55 a56 a57 a58 a59 T hr hr16 hp hT
    have er := nI_toInt (n := r) (by omega)
    have go : ∀ (p : Nat) (R : R10), p ≤ N → R = kr_readRule f (nI N) (nI p) 0 (nI 0) f53 a2 a54 a55 a56 a57 a58 a59 (nI r) → (R.2.1 = 0 → kx_sign (nI N) R.1 a2 = -1 → T.1 = nI r + 1) → (R.2.1 = 0 → ¬ kx_sign (nI N) R.1 a2 = -1 → T = kr_readLaw_23 f (nI N) a2 m (nI r + 1) R.1 R.2.1 R.2.2.1 (nI r + 1) R.2.2.2.1 R.2.2.2.2.1 R.2.2.2.2.2.1 R.2.2.2.2.2.2.1 R.2.2.2.2.2.2.2.1 R.2.2.2.2.2.2.2.2.1 R.2.2.2.2.2.2.2.2.2) → (¬ R.2.1 = 0 → T.1 = R.2.1) → T.1 = lS (cG a2 N) N (m + 1) r p := fun p R hp hR t1 t2 t3 => by
      have L : lS (cG a2 N) N (m + 1) r p = (match uS (cG a2 N) N p r with | .inr e => e | .inl q => if cG a2 N q = -1 then nI (r + 1) else if cG a2 N q = 59 then lS (cG a2 N) N m (r + 1) (q + 1) else eF 1 q) := rfl
      rcases c_rul h2 hN hb hf hp hr16 hR with ⟨q, q1, q2, q3, q4, q5, q6⟩ | ⟨q1, q2⟩
      · rw [q6] at L
        have L : lS (cG a2 N) N (m + 1) r p = (if cG a2 N q = -1 then nI (r + 1) else if cG a2 N q = 59 then lS (cG a2 N) N m (r + 1) (q + 1) else eF 1 q) := L
        have es : kx_sign (nI N) R.1 a2 = cG a2 N q := by rw [q3, cG_s h2 hN q2]
        rw [es] at t1 t2
        rw [L]
        have r15 : r < 16 := by
          by_cases c : r = 16
          · rw [c] at q6
            exact (uS_16 q6).elim
          · omega
        by_cases c : cG a2 N q = -1
        · rw [if_pos c, t1 q4 c, nJ_1 (n := r) (by omega)]
        · have t2 := t2 q4 c
          rw [q3, q4, q5, nJ_1 (n := r) (by omega)] at t2
          rw [if_neg c]
          exact (ih (r + 1) q _ _ _ _ _ _ _ _ T (by omega) (by omega) q2 t2).trans (if_neg (by omega))
      · rw [q2] at L
        exact (t3 q1).trans L.symm
    rw [e_kr_readLaw_23] at hT
    by_cases r0 : r = 0
    · rw [if_pos r0]
      subst r0
      rw [if_neg (by omega), lt_e] at hT
      generalize hR : kr_readRule f (nI N) (nI p) 0 (nI 0) f53 a2 a54 a55 a56 a57 a58 a59 (nI 0) = R at hT
      refine go p R hp hR.symm (fun x y => ?_) (fun x y => ?_) (fun x => ?_)
      · rw [if_pos x, lt_e, if_pos y] at hT
        exact congrArg (fun z : R12t => z.1) hT
      · rw [if_pos x, lt_e, if_neg y] at hT
        exact hT
      · rw [if_neg x] at hT
        exact congrArg (fun z : R12t => z.1) hT
    · rw [if_neg r0]
      rw [if_pos (by omega), lt_e, ps_0 h2 hN hp] at hT
      by_cases c : cG a2 N p = 59
      · have pl := in_of (s := cG a2 N) cG_e (p := p) (by rw [c]; decide)
        rw [if_pos c, lt_e] at hT
        rw [if_pos c]
        have hT : T = (fun g : R10 => (if g.2.1 = 0 then (lt (kx_sign (nI N) g.1 a2) (fun g708 => (if g708 = (-1) then ((nI r + 1), g.1, g.2.1, g.2.2.1, (nI r + 1), g.2.2.2.1, g.2.2.2.2.1, g.2.2.2.2.2.1, g.2.2.2.2.2.2.1, g.2.2.2.2.2.2.2.1, g.2.2.2.2.2.2.2.2.1, g.2.2.2.2.2.2.2.2.2) else (kr_readLaw_23 f (nI N) a2 m (nI r + 1) g.1 g.2.1 g.2.2.1 (nI r + 1) g.2.2.2.1 g.2.2.2.2.1 g.2.2.2.2.2.1 g.2.2.2.2.2.2.1 g.2.2.2.2.2.2.2.1 g.2.2.2.2.2.2.2.2.1 g.2.2.2.2.2.2.2.2.2)))) else (g.2.1, g.1, g.2.1, g.2.2.1, f530, g.2.2.2.1, g.2.2.2.2.1, g.2.2.2.2.2.1, g.2.2.2.2.2.2.1, g.2.2.2.2.2.2.2.1, g.2.2.2.2.2.2.2.2.1, g.2.2.2.2.2.2.2.2.2) : R12t)) (kr_readRule f (nI N) (nI (p + 1)) 0 (nI 0) f53 a2 a54 a55 a56 a57 a58 a59 (nI r)) := hT
        generalize hR : kr_readRule f (nI N) (nI (p + 1)) 0 (nI 0) f53 a2 a54 a55 a56 a57 a58 a59 (nI r) = R at hT
        have hT : T = (if R.2.1 = 0 then (lt (kx_sign (nI N) R.1 a2) (fun g708 => (if g708 = (-1) then ((nI r + 1), R.1, R.2.1, R.2.2.1, (nI r + 1), R.2.2.2.1, R.2.2.2.2.1, R.2.2.2.2.2.1, R.2.2.2.2.2.2.1, R.2.2.2.2.2.2.2.1, R.2.2.2.2.2.2.2.2.1, R.2.2.2.2.2.2.2.2.2) else (kr_readLaw_23 f (nI N) a2 m (nI r + 1) R.1 R.2.1 R.2.2.1 (nI r + 1) R.2.2.2.1 R.2.2.2.2.1 R.2.2.2.2.2.1 R.2.2.2.2.2.2.1 R.2.2.2.2.2.2.2.1 R.2.2.2.2.2.2.2.2.1 R.2.2.2.2.2.2.2.2.2)))) else (R.2.1, R.1, R.2.1, R.2.2.1, f530, R.2.2.2.1, R.2.2.2.2.1, R.2.2.2.2.2.1, R.2.2.2.2.2.2.1, R.2.2.2.2.2.2.2.1, R.2.2.2.2.2.2.2.2.1, R.2.2.2.2.2.2.2.2.2) : R12t) := hT
        refine go (p + 1) R (by omega) hR.symm (fun x y => ?_) (fun x y => ?_) (fun x => ?_)
        · rw [if_pos x, lt_e, if_pos y] at hT
          exact congrArg (fun z : R12t => z.1) hT
        · rw [if_pos x, lt_e, if_neg y] at hT
          exact hT
        · rw [if_neg x] at hT
          exact congrArg (fun z : R12t => z.1) hT
      · have e1 := (eF_0 p (by omega)).1
        rw [if_neg c, lt_e] at hT
        rw [if_neg c]
        generalize eF 1 p = E at e1 hT ⊢
        have er := c_rul_e (a2 := a2) (f := f) (n := nI N) (p := nI p) (o := nI 0) (f53 := f53) (x := nI r) (a54 := a54) (a55 := a55) (a56 := a56) (a57 := a57) (a58 := a58) (a59 := a59) e1
        have hT : T = (fun g : R10 => (if g.2.1 = 0 then (lt (kx_sign (nI N) g.1 a2) (fun g708 => (if g708 = (-1) then ((nI r + 1), g.1, g.2.1, g.2.2.1, (nI r + 1), g.2.2.2.1, g.2.2.2.2.1, g.2.2.2.2.2.1, g.2.2.2.2.2.2.1, g.2.2.2.2.2.2.2.1, g.2.2.2.2.2.2.2.2.1, g.2.2.2.2.2.2.2.2.2) else (kr_readLaw_23 f (nI N) a2 m (nI r + 1) g.1 g.2.1 g.2.2.1 (nI r + 1) g.2.2.2.1 g.2.2.2.2.1 g.2.2.2.2.2.1 g.2.2.2.2.2.2.1 g.2.2.2.2.2.2.2.1 g.2.2.2.2.2.2.2.2.1 g.2.2.2.2.2.2.2.2.2)))) else (g.2.1, g.1, g.2.1, g.2.2.1, f530, g.2.2.2.1, g.2.2.2.2.1, g.2.2.2.2.2.1, g.2.2.2.2.2.2.1, g.2.2.2.2.2.2.2.1, g.2.2.2.2.2.2.2.2.1, g.2.2.2.2.2.2.2.2.2) : R12t)) (kr_readRule f (nI N) (nI p) E (nI 0) f53 a2 a54 a55 a56 a57 a58 a59 (nI r)) := hT
        rw [er] at hT
        exact congrArg (fun z : R12t => z.1) (hT.trans (if_neg e1))
end PD
