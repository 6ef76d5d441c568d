/-! power: both sides -/
/-- what both sides see of told guests and biscuits -/
noncomputable def PC (t : Int32) (bi now : List Int32) (tm : Nat) : Prop := t = now.getD 144 0 ∧ t = nI tm ∧ tm < 4096 ∧ (∀ g, g < 12 → bi.getD g 0 = now.getD (12 + g) 0) ∧ ∀ g, g < 12 → 0 ≤ (bi.getD g 0).toInt ∧ (bi.getD g 0).toInt ≤ 20
/-- a sum by bits -/
noncomputable def qS (bi : List Int32) : Nat → (Nat → Bool) → Nat
  | 0, _ => 0
  | n + 1, f => qS bi n f + (if f n = true then pb bi n else 0)
theorem qS_c {bi : List Int32} {f f' : Nat → Bool} : ∀ (n : Nat), (∀ i, i < n → f i = f' i) → qS bi n f = qS bi n f'
  | 0, _ => rfl
  | n + 1, h => by
    show qS bi n f + (if f n = true then pb bi n else 0) = qS bi n f' + (if f' n = true then pb bi n else 0)
    rw [qS_c n (fun i hi => h i (by omega)), h n (by omega)]
theorem qS_1 {bi : List Int32} {f f' : Nat → Bool} {g : Nat} : ∀ (n : Nat), g < n → f g = false → f' g = true → (∀ i, i < n → i ≠ g → f' i = f i) → qS bi n f' = qS bi n f + pb bi g
  | n + 1, hg, h0, h1, h => by
    show qS bi n f' + (if f' n = true then pb bi n else 0) = qS bi n f + (if f n = true then pb bi n else 0) + pb bi g
    by_cases e : g = n
    · subst e
      rw [h0, h1, if_pos rfl, if_neg (by decide), qS_c g (fun i hi => h i (by omega) (by omega))]
      omega
    · rw [qS_1 n (by omega) h0 h1 (fun i hi hn => h i (by omega) hn), h n (by omega) (fun z => e z.symm)]
      omega
theorem qS_s {bi : List Int32} {s : Nat} : ∀ (n : Nat), sS bi n s = qS bi n s.testBit
  | 0 => rfl
  | n + 1 => by
    show sS bi n s + (if s.testBit n = true then pb bi n else 0) = qS bi n s.testBit + (if s.testBit n = true then pb bi n else 0)
    rw [qS_s n]
theorem sb_iff {T : Nat → Bool} {s : Nat} : ∀ (n : Nat), sb T n s = true ↔ ∀ g, g < n → s.testBit g = true → T g = true
  | 0 => ⟨fun _ g hg => by omega, fun _ => rfl⟩
  | n + 1 => by
    show (sb T n s && (!s.testBit n || T n)) = true ↔ _
    rw [Bool.and_eq_true, sb_iff n, Bool.or_eq_true, Bool.not_eq_true']
    constructor
    · rintro ⟨h1, h2⟩ g hg hb
      by_cases e : g = n
      · subst e
        rcases h2 with h2 | h2
        · rw [hb] at h2; cases h2
        · exact h2
      · exact h1 g (by omega) hb
    · intro h
      refine ⟨fun g hg hb => h g (by omega) hb, ?_⟩
      cases e : s.testBit n with
      | false => exact Or.inl rfl
      | true => exact Or.inr (h n (by omega) e)
theorem pL_c {T T' : Nat → Bool} {bi : List Int32} : ∀ (n : Nat), (∀ i, i < n → T i = T' i) → pL T bi n = pL T' bi n
  | 0, _ => rfl
  | n + 1, h => by
    show (if T n = true then pb bi n :: pL T bi n else pL T bi n) = (if T' n = true then pb bi n :: pL T' bi n else pL T' bi n)
    rw [pL_c n (fun i hi => h i (by omega)), h n (by omega)]
theorem pL_len {T : Nat → Bool} {bi : List Int32} : ∀ (n : Nat), (pL T bi n).length ≤ n
  | 0 => Nat.le_refl _
  | n + 1 => by
    have := pL_len (T := T) (bi := bi) n
    show (if T n = true then pb bi n :: pL T bi n else pL T bi n).length ≤ n + 1
    split
    · rw [List.length_cons]; omega
    · omega
theorem pL_mem {T : Nat → Bool} {bi : List Int32} {u : Nat} : ∀ (n : Nat), u ∈ pL T bi n → ∃ c, c < n ∧ T c = true ∧ u = pb bi c
  | 0, h => by cases h
  | n + 1, h => by
    have h : u ∈ (if T n = true then pb bi n :: pL T bi n else pL T bi n) := h
    by_cases e : T n = true
    · rw [if_pos e, List.mem_cons] at h
      rcases h with h | h
      · exact ⟨n, by omega, e, h⟩
      · obtain ⟨c, c1, c2, c3⟩ := pL_mem n h
        exact ⟨c, by omega, c2, c3⟩
    · rw [if_neg e] at h
      obtain ⟨c, c1, c2, c3⟩ := pL_mem n h
      exact ⟨c, by omega, c2, c3⟩
theorem pL_ins {T T' : Nat → Bool} {bi : List Int32} {g : Nat} : ∀ (n : Nat), g < n → T g = false → T' g = true → (∀ i, i < n → i ≠ g → T' i = T i) → (pL T' bi n).Perm (pb bi g :: pL T bi n)
  | n + 1, hg, h0, h1, h => by
    show (if T' n = true then pb bi n :: pL T' bi n else pL T' bi n).Perm (pb bi g :: (if T n = true then pb bi n :: pL T bi n else pL T bi n))
    by_cases e : g = n
    · subst e
      rw [h0, h1, if_pos rfl, if_neg (by decide), pL_c g (fun i hi => h i (by omega) (by omega))]
    · have ih := pL_ins (bi := bi) n (by omega) h0 h1 (fun i hi hn => h i (by omega) hn)
      rw [h n (by omega) (fun z => e z.symm)]
      by_cases e2 : T n = true
      · rw [if_pos e2, if_pos e2]
        exact (List.Perm.cons _ ih).trans (List.Perm.swap _ _ _)
      · rw [if_neg e2, if_neg e2]
        exact ih
theorem sum_le : ∀ (L : List Nat), (∀ u, u ∈ L → u ≤ 20) → L.sum ≤ 20 * L.length
  | [], _ => Nat.le_refl _
  | v :: L, h => by
    have := sum_le L (fun u hu => h u (List.mem_cons_of_mem _ hu))
    have := h v (List.mem_cons_self ..)
    rw [List.sum_cons, List.length_cons]
    omega
/-- one that has none changes nothing where the least must be more than none -/
theorem C2_z {T : Nat → Bool} {bi : List Int32} : ∀ (n : Nat) (F : Nat → Nat → Bool), (∀ x, F x 0 = false) → C2 (pL T bi n) F = C2 (pL (fun c => T c && decide (0 < pb bi c)) bi n) F
  | 0, _, _ => rfl
  | n + 1, F, h => by
    show C2 (if T n = true then pb bi n :: pL T bi n else pL T bi n) F = C2 (if (T n && decide (0 < pb bi n)) = true then pb bi n :: pL (fun c => T c && decide (0 < pb bi c)) bi n else pL (fun c => T c && decide (0 < pb bi c)) bi n) F
    by_cases e : T n = true
    · rw [e, Bool.true_and, if_pos rfl]
      by_cases p : 0 < pb bi n
      · rw [decide_eq_true p, if_pos rfl]
        show C2 (pL T bi n) F + C2 (pL T bi n) (fun x m => F (x + pb bi n) (min m (pb bi n))) = C2 (pL (fun c => T c && decide (0 < pb bi c)) bi n) F + C2 (pL (fun c => T c && decide (0 < pb bi c)) bi n) (fun x m => F (x + pb bi n) (min m (pb bi n)))
        rw [C2_z n F h, C2_z n (fun x m => F (x + pb bi n) (min m (pb bi n))) (fun x => by rw [show min 0 (pb bi n) = 0 by omega]; exact h _)]
      · rw [decide_eq_false p, if_neg (by decide)]
        show C2 (pL T bi n) F + C2 (pL T bi n) (fun x m => F (x + pb bi n) (min m (pb bi n))) = C2 (pL (fun c => T c && decide (0 < pb bi c)) bi n) F
        rw [C2_z n F h, C2_congr (pL T bi n) (F := fun x m => F (x + pb bi n) (min m (pb bi n))) (G := fun _ _ => false) (fun x m => by rw [show min m (pb bi n) = 0 by omega]; exact h _), C2_false]
        rfl
    · rw [eq_false_of_ne_true e, Bool.false_and, if_neg (by decide), if_neg (by decide)]
      exact C2_z n F h
/-- sets found one by one, each by the one that joins last -/
noncomputable def pE (al : Nat) : List Nat → Nat
  | [] => 0
  | v :: L => pE al L + C2 L (fun x _ => !mo al x && mo al (x + v))
noncomputable def asc : List Nat → Prop
  | [] => True
  | v :: L => (∀ u, u ∈ L → v ≤ u) ∧ asc L
noncomputable def Fl (al x m : Nat) : Bool := mo al x && !mo al (x - m)
theorem E_C2 {al : Nat} : ∀ (L : List Nat), asc L → (∀ u, u ∈ L → u ≤ 20) → C2 L (Fl al) = pE al L
  | [], _, _ => by
    show (if Fl al 0 21 = true then 1 else 0) = 0
    have e : Fl al 0 21 = false := by unfold Fl mo; rw [decide_eq_false (by omega)]; rfl
    rw [e]
    rfl
  | v :: L, ha, hv => by
    have v20 := hv v (List.mem_cons_self ..)
    show C2 L (Fl al) + C2 L (fun x m => Fl al (x + v) (min m v)) = pE al L + C2 L (fun x _ => !mo al x && mo al (x + v))
    rw [E_C2 L ha.2 (fun u hu => hv u (List.mem_cons_of_mem _ hu)), C2_ge (v := v) (by omega) L (F := fun x m => Fl al (x + v) (min m v)) (G := fun x _ => !mo al x && mo al (x + v)) ha.1 (fun x m hm => by
      show Fl al (x + v) (min m v) = (!mo al x && mo al (x + v))
      unfold Fl
      rw [show x + v - min m v = x by omega, Bool.and_comm])]
section PX
variable {t : Int32} {bi now a40 : List Int32} {tm : Nat}
theorem px_b (h : PC t bi now tm) {g : Nat} (hg : g < 12) : bi.getD g 0 = nI (pb bi g) ∧ pb bi g ≤ 20 := by
  have b := h.2.2.2.2 g hg
  unfold pb
  exact ⟨nJ_of (by omega), by omega⟩
theorem px_t (h : PC t bi now tm) {g : Nat} (hg : g < 32) : b32 t g = tm.testBit g := by
  rw [h.2.1]
  exact b32_n hg
theorem qS_le (h : PC t bi now tm) {f : Nat → Bool} : ∀ (n : Nat), n ≤ 12 → qS bi n f ≤ 20 * n
  | 0, _ => Nat.le_refl _
  | n + 1, hn => by
    have := qS_le h (f := f) n (by omega)
    have := (px_b h (show n < 12 by omega)).2
    show qS bi n f + (if f n = true then pb bi n else 0) ≤ 20 * (n + 1)
    split <;> omega
theorem pL_sum (h : PC t bi now tm) : ∀ (n : Nat), n ≤ 12 → (pL (b32 t) bi n).sum = qS bi n (b32 t)
  | 0, _ => rfl
  | n + 1, hn => by
    have ih := pL_sum h n (by omega)
    show (if b32 t n = true then pb bi n :: pL (b32 t) bi n else pL (b32 t) bi n).sum = qS bi n (b32 t) + (if b32 t n = true then pb bi n else 0)
    by_cases e : b32 t n = true
    · rw [if_pos e, if_pos e, List.sum_cons, ih]
      omega
    · rw [if_neg e, if_neg e, ih]
      rfl
theorem px_all (h : PC t bi now tm) : kt_allBiscuits t bi = nI (qS bi 12 (b32 t)) := by
  unfold kt_allBiscuits
  have loop : ∀ (m g : Nat), g + m = 12 → kt_allBiscuits_4 t bi m (nI (qS bi g (b32 t))) (nI g) = nI (qS bi 12 (b32 t)) := by
    intro m
    induction m with
    | zero =>
      intro g hg
      rw [e0_kt_allBiscuits_4, show g = 12 by omega]
    | succ m ih =>
      intro g hg
      have i2 := ih (g + 1) (by omega)
      have q : qS bi (g + 1) (b32 t) = qS bi g (b32 t) + (if b32 t g = true then pb bi g else 0) := rfl
      rw [e_kt_allBiscuits_4, nJ_1 (n := g) (by omega), nJ_ix (n := g) (by omega), (px_b h (show g < 12 by omega)).1]
      rcases told2 h.1 (show g < 12 by omega) with ⟨p, -, b⟩ | ⟨p, -, b⟩
      · rw [if_pos p]
        rw [q, if_neg (by rw [b]; decide)] at i2
        exact i2
      · rw [if_neg (by rw [p]; decide), nI_plus]
        rw [q, if_pos b] at i2
        exact i2
  exact loop 12 0 rfl
theorem px_of (h : PC t bi now tm) (Y : Int32) : km_biscuitsOf now Y = nI (qS bi 12 (b32 Y)) := by
  unfold km_biscuitsOf
  have loop : ∀ (m g : Nat), g + m = 12 → km_biscuitsOf_4 now Y m (nI (qS bi g (b32 Y))) (nI g) = nI (qS bi 12 (b32 Y)) := by
    intro m
    induction m with
    | zero =>
      intro g hg
      rw [e0_km_biscuitsOf_4, show g = 12 by omega]
    | succ m ih =>
      intro g hg
      have i2 := ih (g + 1) (by omega)
      have q : qS bi (g + 1) (b32 Y) = qS bi g (b32 Y) + (if b32 Y g = true then pb bi g else 0) := rfl
      rw [e_km_biscuitsOf_4, nJ_1 (n := g) (by omega), nJ_ad (a := 12) (k := 12) (n := g) rfl (by omega), ← h.2.2.2.1 g (by omega), (px_b h (show g < 12 by omega)).1]
      by_cases b : b32 Y g = true
      · rw [if_neg (vh1 (by omega) b), nI_plus]
        rw [q, if_pos b] at i2
        exact i2
      · rw [if_pos (vh0 (by omega) (eq_false_of_ne_true b)), Int32.add_zero]
        rw [q, if_neg b] at i2
        exact i2
  exact loop 12 0 rfl
theorem px_more (h : PC t bi now tm) (Y : Int32) : km_isMore now Y = if mo (qS bi 12 (b32 t)) (qS bi 12 (b32 Y)) = true then 1 else 0 := by
  have l1 := qS_le h (f := b32 t) 12 (by omega)
  have l2 := qS_le h (f := b32 Y) 12 (by omega)
  unfold km_isMore
  rw [px_of h Y, ← h.1, px_of h t, two_n (by omega), nI_toInt (by omega)]
  unfold mo
  by_cases c : qS bi 12 (b32 t) < 2 * qS bi 12 (b32 Y)
  · rw [if_pos (by omega), decide_eq_true c, if_pos rfl]
  · rw [if_neg (by omega), decide_eq_false c, if_neg (by decide)]
theorem px_sub (h : PC t bi now tm) {s : Nat} (hs : s < 4096) : ((nI s) &&& ((now.getD 144 0) ^^^ (-1)) = 0) ↔ sb (b32 t) 12 s = true := by
  rw [← h.1, sb_iff]
  constructor
  · intro e g hg hb
    have q := b32_and (nI s) (t ^^^ (-1)) g
    rw [e, b32_0, b32_n (by omega), hb, Bool.true_and, b32_not (by omega)] at q
    cases z : b32 t g with
    | true => rfl
    | false => rw [z] at q; cases q
  · intro e
    refine b32_ext fun k hk => ?_
    rw [b32_and, b32_0, b32_n hk, b32_not hk]
    by_cases b : s.testBit k = true
    · by_cases k12 : k < 12
      · rw [e k k12 b, Bool.not_true, Bool.and_false]
      · rw [Nat.testBit_lt_two_pow (Nat.lt_of_lt_of_le hs (show 4096 ≤ 2 ^ k from (Nat.pow_le_pow_right (by omega) (by omega) : 2 ^ 12 ≤ 2 ^ k)))] at b
        cases b
    · rw [eq_false_of_ne_true b, Bool.false_and]
theorem px_le (h : PC t bi now tm) {s : Nat} (hs : s < 4096) (hb : sb (b32 t) 12 s = true) : s ≤ tm := by
  rw [sb_iff] at hb
  have e : s &&& tm = s := Nat.eq_of_testBit_eq (fun i => by
    rw [Nat.testBit_and]
    by_cases b : s.testBit i = true
    · by_cases i12 : i < 12
      · rw [← px_t h (show i < 32 by omega), hb i i12 b, b]
        rfl
      · rw [Nat.testBit_lt_two_pow (Nat.lt_of_lt_of_le hs (show 4096 ≤ 2 ^ i from (Nat.pow_le_pow_right (by omega) (by omega) : 2 ^ 12 ≤ 2 ^ i)))] at b
        cases b
    · rw [eq_false_of_ne_true b]
      rfl)
  rw [← e]
  exact Nat.and_le_right
/-- the reference's loop: sets one by one -/
theorem px_cut (h : PC t bi now tm) {P : Nat → Bool} (hP : ∀ s, s < 4096 → P s = true → sb (b32 t) 12 s = true) : pc (tm + 1) P = pc (2 ^ 12) P := by
  have h4 := h.2.2.1
  refine (pc_cut (by omega) (fun s h1 h2 => ?_)).symm
  cases e : P s with
  | false => rfl
  | true => have := px_le h (by omega) (hP s (by omega) e); omega
theorem px_win (h : PC t bi now tm) (h40 : a40.length = 241) : pA (pL (b32 t) bi 12) (kv_winningSets_6 t bi 12 0 (kv_beginSets a40)) := by
  have loop : ∀ (m g : Nat) (a : List Int32), g + m = 12 → pA (pL (b32 t) bi g) a → pA (pL (b32 t) bi 12) (kv_winningSets_6 t bi m (nI g) a) := by
    intro m
    induction m with
    | zero =>
      intro g a hg ha
      rw [e0_kv_winningSets_6]
      rw [show g = 12 by omega] at ha
      exact ha
    | succ m ih =>
      intro g a hg ha
      have q : pL (b32 t) bi (g + 1) = if b32 t g = true then pb bi g :: pL (b32 t) bi g else pL (b32 t) bi g := rfl
      rw [e_kv_winningSets_6, nJ_1 (n := g) (by omega), nJ_ix (n := g) (by omega), (px_b h (show g < 12 by omega)).1]
      rcases told2 h.1 (show g < 12 by omega) with ⟨p, -, b⟩ | ⟨p, -, b⟩
      · rw [if_pos p]
        refine ih (g + 1) a (by omega) ?_
        rw [q, if_neg (by rw [b]; decide)]
        exact ha
      · rw [if_neg (by rw [p]; decide)]
        refine ih (g + 1) _ (by omega) ?_
        rw [q, if_pos b]
        exact pA_join (px_b h (by omega)).2 ha
  exact loop 12 0 _ rfl (pA_0 h40)
theorem px_swung (h : PC t bi now tm) {v : Nat} (hv : v < 12) (h40 : a40.length = 241) : pA (pL (fun c => b32 t c && !decide (c = v)) bi 12) (kv_setsSwungBy_6 t bi (nI v) 12 0 (kv_beginSets a40)) := by
  have loop : ∀ (m g : Nat) (a : List Int32), g + m = 12 → pA (pL (fun c => b32 t c && !decide (c = v)) bi g) a → pA (pL (fun c => b32 t c && !decide (c = v)) bi 12) (kv_setsSwungBy_6 t bi (nI v) m (nI g) a) := by
    intro m
    induction m with
    | zero =>
      intro g a hg ha
      rw [e0_kv_setsSwungBy_6]
      rw [show g = 12 by omega] at ha
      exact ha
    | succ m ih =>
      intro g a hg ha
      have q : pL (fun c => b32 t c && !decide (c = v)) bi (g + 1) = if (b32 t g && !decide (g = v)) = true then pb bi g :: pL (fun c => b32 t c && !decide (c = v)) bi g else pL (fun c => b32 t c && !decide (c = v)) bi g := rfl
      rw [e_kv_setsSwungBy_6, nJ_1 (n := g) (by omega), nJ_ix (n := g) (by omega), (px_b h (show g < 12 by omega)).1]
      by_cases e : g = v
      · rw [if_pos (by rw [e])]
        refine ih (g + 1) a (by omega) ?_
        rw [q, if_neg (by rw [decide_eq_true e]; simp)]
        exact ha
      · rw [if_neg (fun z => e (nJ_inj (by omega) (by omega) z))]
        rcases told2 h.1 (show g < 12 by omega) with ⟨p, -, b⟩ | ⟨p, -, b⟩
        · rw [if_pos p]
          refine ih (g + 1) a (by omega) ?_
          rw [q, if_neg (by rw [b]; simp)]
          exact ha
        · rw [if_neg (by rw [p]; decide)]
          refine ih (g + 1) _ (by omega) ?_
          rw [q, if_pos (by rw [b, decide_eq_false e]; rfl)]
          exact pA_join (px_b h (by omega)).2 ha
  exact loop 12 0 _ rfl (pA_0 h40)
/-- those who have joined when guest g comes at so many biscuits -/
noncomputable def Tb (t : Int32) (bi : List Int32) (b g c : Nat) : Bool := b32 t c && (decide (b < pb bi c) || (decide (pb bi c = b) && decide (c < g)))
theorem px_least (h : PC t bi now tm) (h40 : a40.length = 241) : (kv_leastWinningSets t bi a40).1 = nI (C2 (pL (b32 t) bi 12) (Fl (qS bi 12 (b32 t)))) := by
  have lal := qS_le h (f := b32 t) 12 (by omega)
  have pm : ∀ {L : List Nat} {b g : Nat}, L.Perm (pL (Tb t bi b g) bi 12) → L.sum ≤ 240 ∧ (∀ u, u ∈ L → u ≤ 20) ∧ ∀ u, u ∈ L → b ≤ u := fun {L b g} hp => by
    have mem : ∀ u, u ∈ L → b ≤ u ∧ u ≤ 20 := fun u hu => by
      obtain ⟨c, c1, c2, rfl⟩ := pL_mem 12 ((hp.mem_iff).mp hu)
      have c20 := (px_b h c1).2
      unfold Tb at c2
      rw [Bool.and_eq_true, Bool.or_eq_true, Bool.and_eq_true, decide_eq_true_eq, decide_eq_true_eq, decide_eq_true_eq] at c2
      omega
    refine ⟨?_, fun u hu => (mem u hu).2, fun u hu => (mem u hu).1⟩
    have s := sum_le L (fun u hu => (mem u hu).2)
    have l := pL_len (T := Tb t bi b g) (bi := bi) 12
    rw [hp.length_eq] at s
    omega
  have inner : ∀ (b : Nat), b ≤ 20 → ∀ (m g : Nat) (L : List Nat) (a : List Int32), g + m = 12 → pA L a → asc L → L.Perm (pL (Tb t bi b g) bi 12) → ∃ L', pA L' (kv_leastWinningSets_15 t bi (nI b) m (nI (pE (qS bi 12 (b32 t)) L)) (nI g) a).2 ∧ (kv_leastWinningSets_15 t bi (nI b) m (nI (pE (qS bi 12 (b32 t)) L)) (nI g) a).1 = nI (pE (qS bi 12 (b32 t)) L') ∧ asc L' ∧ L'.Perm (pL (Tb t bi b 12) bi 12) := by
    intro b hb m
    induction m with
    | zero =>
      intro g L a hg ha hs hp
      rw [e0_kv_leastWinningSets_15]
      rw [show g = 12 by omega] at hp
      exact ⟨L, ha, rfl, hs, hp⟩
    | succ m ih =>
      intro g L a hg ha hs hp
      obtain ⟨p1, p2, p3⟩ := pm hp
      have gb := px_b h (show g < 12 by omega)
      have same : Tb t bi b (g + 1) g = false → ∀ c, c < 12 → Tb t bi b g c = Tb t bi b (g + 1) c := fun z c _ => by
        by_cases e : c = g
        · subst e
          rw [z]
          unfold Tb at z ⊢
          rw [decide_eq_false (show ¬ c < c by omega), Bool.and_false, Bool.or_false]
          rw [Bool.and_eq_false_iff, Bool.or_eq_false_iff] at z
          rcases z with z | ⟨z, -⟩
          · rw [z]; rfl
          · rw [z, Bool.and_false]
        · unfold Tb
          rw [show decide (c < g) = decide (c < g + 1) from decide_eq_decide.mpr (by omega)]
      rw [e_kv_leastWinningSets_15, nJ_1 (n := g) (by omega), nJ_ix (n := g) (by omega), gb.1]
      rcases told2 h.1 (show g < 12 by omega) with ⟨p, -, q⟩ | ⟨p, -, q⟩
      · rw [if_pos p]
        refine ih (g + 1) L a (by omega) ha hs ?_
        rw [← pL_c 12 (same (by unfold Tb; rw [q]; rfl))]
        exact hp
      · rw [if_neg (by rw [p]; decide)]
        by_cases e : pb bi g = b
        · rw [if_pos (by rw [e]), turned_c hb p1 lal (px_all h) ha, nI_plus]
          refine ih (g + 1) (b :: L) _ (by omega) (pA_join hb ha) ⟨p3, hs⟩ ?_
          have ins := pL_ins (T := Tb t bi b g) (T' := Tb t bi b (g + 1)) (bi := bi) (g := g) 12 (by omega) (by
            unfold Tb
            rw [decide_eq_false (show ¬ b < pb bi g by omega), decide_eq_false (show ¬ g < g by omega), Bool.and_false, Bool.or_false, Bool.and_false]) (by
            unfold Tb
            rw [q, decide_eq_true e, decide_eq_true (show g < g + 1 by omega)]
            simp) (fun i _ hn => by
            unfold Tb
            rw [show decide (i < g + 1) = decide (i < g) from decide_eq_decide.mpr (by omega)])
          rw [e] at ins
          exact (List.Perm.cons b hp).trans ins.symm
        · rw [if_neg (fun z => e (nJ_inj (by omega) (by omega) z))]
          refine ih (g + 1) L a (by omega) ha hs ?_
          by_cases e2 : b < pb bi g
          · have sm : ∀ c, c < 12 → Tb t bi b g c = Tb t bi b (g + 1) c := fun c _ => by
              unfold Tb
              by_cases e3 : c = g
              · subst e3
                rw [decide_eq_true e2]
                rfl
              · rw [show decide (c < g) = decide (c < g + 1) from decide_eq_decide.mpr (by omega)]
            rw [← pL_c 12 sm]
            exact hp
          · rw [← pL_c 12 (same (by unfold Tb; rw [decide_eq_false e2, decide_eq_false e]; simp))]
            exact hp
  have outer : ∀ (m : Nat) (y : Int32) (L : List Nat) (a : List Int32), m ≤ 20 → (m = 0 ∨ y = nI m) → pA L a → asc L → L.Perm (pL (Tb t bi m 0) bi 12) → ∃ L', (kv_leastWinningSets_9 t bi m (nI (pE (qS bi 12 (b32 t)) L)) y a).1 = nI (pE (qS bi 12 (b32 t)) L') ∧ asc L' ∧ L'.Perm (pL (Tb t bi 0 0) bi 12) := by
    intro m
    induction m with
    | zero =>
      intro y L a _ _ ha hs hp
      rw [e0_kv_leastWinningSets_9]
      exact ⟨L, rfl, hs, hp⟩
    | succ m ih =>
      intro y L a hm hy ha hs hp
      have hy : y = nI (m + 1) := by
        rcases hy with e | e
        · omega
        · exact e
      subst hy
      obtain ⟨L', q1, q2, q3, q4⟩ := inner (m + 1) hm 12 0 L a rfl ha hs hp
      rw [e_kv_leastWinningSets_9]
      have q1 : pA L' (kv_leastWinningSets_15 t bi (nI (m + 1)) 12 (nI (pE (qS bi 12 (b32 t)) L)) 0 a).2 := q1
      have q2 : (kv_leastWinningSets_15 t bi (nI (m + 1)) 12 (nI (pE (qS bi 12 (b32 t)) L)) 0 a).1 = nI (pE (qS bi 12 (b32 t)) L') := q2
      rw [q2]
      refine ih _ L' _ (by omega) ?_ q1 q3 ?_
      · by_cases e : m = 0
        · exact Or.inl e
        · refine Or.inr (Int32.toInt_inj.mp ?_)
          have e1 := nI_toInt (n := m + 1) (by omega)
          have e2 := nI_toInt (n := m) (by omega)
          have em : (-1 : Int32).toInt = -1 := rfl
          rw [an_add32 (by omega) (by omega)]
          omega
      · rw [pL_c 12 (T := Tb t bi m 0) (T' := Tb t bi (m + 1) 12) (fun c hc => by
          unfold Tb
          rw [decide_eq_false (show ¬ c < 0 by omega), decide_eq_true hc, Bool.and_false, Bool.or_false, Bool.and_true]
          refine congrArg _ ?_
          by_cases e : pb bi c = m + 1
          · rw [decide_eq_true e, decide_eq_true (show m < pb bi c by omega), Bool.or_true]
          · rw [decide_eq_false e, Bool.or_false]
            exact decide_eq_decide.mpr (by omega))]
        exact q4
  have none20 : pL (Tb t bi 20 0) bi 12 = [] := by
    cases e : pL (Tb t bi 20 0) bi 12 with
    | nil => rfl
    | cons u L =>
      obtain ⟨c, c1, c2, -⟩ := pL_mem (T := Tb t bi 20 0) (bi := bi) (u := u) 12 (by rw [e]; exact List.mem_cons_self ..)
      have c20 := (px_b h c1).2
      unfold Tb at c2
      rw [decide_eq_false (show ¬ 20 < pb bi c by omega), decide_eq_false (show ¬ c < 0 by omega), Bool.and_false, Bool.or_false, Bool.and_false] at c2
      cases c2
  obtain ⟨L, q1, q2, q3⟩ := outer 20 20 [] (kv_beginSets a40) (by omega) (Or.inr rfl) (pA_0 h40) trivial (by rw [none20])
  unfold kv_leastWinningSets
  have q1 : (kv_leastWinningSets_9 t bi 20 0 20 (kv_beginSets a40)).1 = nI (pE (qS bi 12 (b32 t)) L) := q1
  rw [q1, ← E_C2 L q2 (pm q3).2.1, C2_perm q3, C2_z (T := b32 t) 12 (Fl (qS bi 12 (b32 t))) (fun x => by unfold Fl; rw [Nat.sub_zero]; cases mo (qS bi 12 (b32 t)) x <;> rfl)]
  refine congrArg _ (congrArg (fun l => C2 l (Fl (qS bi 12 (b32 t)))) (pL_c 12 (fun c _ => ?_)))
  unfold Tb
  rw [decide_eq_false (show ¬ c < 0 by omega), Bool.and_false, Bool.or_false]
theorem sM_f {s : Nat} : ∀ (n : Nat), (∀ g, g < n → pb bi g ≤ 20) → (∀ g, g < n → s.testBit g = true → sM bi n s ≤ pb bi g) ∧ ((sM bi n s = 21 ∧ ∀ g, g < n → s.testBit g = false) ∨ ∃ g, g < n ∧ s.testBit g = true ∧ pb bi g = sM bi n s)
  | 0, _ => ⟨fun g hg => by omega, Or.inl ⟨rfl, fun g hg => by omega⟩⟩
  | n + 1, hp => by
    obtain ⟨h1, h2⟩ := sM_f (s := s) n (fun g hg => hp g (by omega))
    have pn := hp n (by omega)
    have q : sM bi (n + 1) s = if s.testBit n = true then min (sM bi n s) (pb bi n) else sM bi n s := rfl
    by_cases b : s.testBit n = true
    · rw [if_pos b] at q
      refine ⟨fun g hg hb => ?_, ?_⟩
      · by_cases e : g = n
        · rw [e, q]; omega
        · have := h1 g (by omega) hb
          rw [q]; omega
      · by_cases c : pb bi n ≤ sM bi n s
        · exact Or.inr ⟨n, by omega, b, by rw [q]; omega⟩
        · rcases h2 with ⟨z, -⟩ | ⟨g, g1, g2, g3⟩
          · omega
          · exact Or.inr ⟨g, by omega, g2, by rw [q]; omega⟩
    · rw [if_neg b] at q
      rw [q]
      have b := eq_false_of_ne_true b
      refine ⟨fun g hg hb => ?_, ?_⟩
      · by_cases e : g = n
        · rw [e, b] at hb; cases hb
        · exact h1 g (by omega) hb
      · rcases h2 with ⟨z, z2⟩ | ⟨g, g1, g2, g3⟩
        · refine Or.inl ⟨z, fun g hg => ?_⟩
          by_cases e : g = n
          · rw [e]; exact b
          · exact z2 g (by omega)
        · exact Or.inr ⟨g, by omega, g2, g3⟩
theorem px_lst (h : PC t bi now tm) {s : Nat} : (km_isLeast now (nI s) = 0 ∧ ∃ g, g < 12 ∧ s.testBit g = true ∧ mo (qS bi 12 (b32 t)) (sS bi 12 s - pb bi g) = true) ∨ (km_isLeast now (nI s) = 1 ∧ ∀ g, g < 12 → s.testBit g = true → mo (qS bi 12 (b32 t)) (sS bi 12 s - pb bi g) = false) := by
  have loop : ∀ (m g : Nat), g + m = 12 → (∀ g', g' < g → s.testBit g' = true → mo (qS bi 12 (b32 t)) (sS bi 12 s - pb bi g') = false) → (km_isLeast_2 now (nI s) m (nI g) = 0 ∧ ∃ g, g < 12 ∧ s.testBit g = true ∧ mo (qS bi 12 (b32 t)) (sS bi 12 s - pb bi g) = true) ∨ (km_isLeast_2 now (nI s) m (nI g) = 1 ∧ ∀ g, g < 12 → s.testBit g = true → mo (qS bi 12 (b32 t)) (sS bi 12 s - pb bi g) = false) := by
    intro m
    induction m with
    | zero =>
      intro g hg he
      rw [e0_km_isLeast_2]
      exact Or.inr ⟨rfl, fun g' hg' => he g' (by omega)⟩
    | succ m ih =>
      intro g hg he
      rw [e_km_isLeast_2, nJ_1 (n := g) (by omega)]
      by_cases b : s.testBit g = true
      · have eb : b32 (nI s) g = true := (b32_n (by omega)).trans b
        have q : qS bi 12 s.testBit = qS bi 12 (b32 (nI s &&& (((1 : Int32) <<< (nI g &&& 31)) ^^^ (-1)))) + pb bi g := qS_1 12 (by omega) (by
          rw [b32_and, b32_not (by omega), b32_bitn (by omega) (by omega), decide_eq_true rfl]
          simp) b (fun i hi hn => by
          rw [b32_and, b32_not (by omega), b32_bitn (by omega) (by omega), decide_eq_false hn, b32_n (by omega)]
          simp)
        rw [if_neg (vh1 (by omega) eb), px_more h]
        have qx : qS bi 12 (b32 (nI s &&& (((1 : Int32) <<< (nI g &&& 31)) ^^^ (-1)))) = sS bi 12 s - pb bi g := by
          rw [qS_s 12, q]
          omega
        rw [qx]
        by_cases c : mo (qS bi 12 (b32 t)) (sS bi 12 s - pb bi g) = true
        · rw [if_pos c, if_neg (show ¬ (1 : Int32) = 0 by decide)]
          exact Or.inl ⟨rfl, g, by omega, b, c⟩
        · rw [if_neg c, if_pos (show (0 : Int32) = 0 from rfl)]
          refine ih (g + 1) (by omega) (fun g' hg' hb' => ?_)
          by_cases e : g' = g
          · rw [e]; exact eq_false_of_ne_true c
          · exact he g' (by omega) hb'
      · have eb : b32 (nI s) g = false := (b32_n (by omega)).trans (eq_false_of_ne_true b)
        rw [if_pos (vh0 (by omega) eb)]
        refine ih (g + 1) (by omega) (fun g' hg' hb' => ?_)
        by_cases e : g' = g
        · rw [e] at hb'; exact absurd hb' b
        · exact he g' (by omega) hb'
  exact loop 12 0 rfl (fun g' hg' => by omega)
theorem mo_le {al x y : Nat} (h : x ≤ y) (hx : mo al x = true) : mo al y = true := by
  unfold mo at hx ⊢
  rw [decide_eq_true_eq] at hx ⊢
  omega
theorem px_Fl (h : PC t bi now tm) {s : Nat} : (mo (qS bi 12 (b32 t)) (sS bi 12 s) && decide (km_isLeast now (nI s) = 1)) = Fl (qS bi 12 (b32 t)) (sS bi 12 s) (sM bi 12 s) := by
  unfold Fl
  cases e : mo (qS bi 12 (b32 t)) (sS bi 12 s) with
  | false => rfl
  | true =>
    rw [Bool.true_and, Bool.true_and]
    obtain ⟨f1, f2⟩ := sM_f (bi := bi) (s := s) 12 (fun g hg => (px_b h hg).2)
    rcases px_lst h (s := s) with ⟨l, g, g1, g2, g3⟩ | ⟨l, l2⟩
    · rw [l, decide_eq_false (by decide), mo_le (show sS bi 12 s - pb bi g ≤ sS bi 12 s - sM bi 12 s by have := f1 g g1 g2; omega) g3]
      rfl
    · rw [l, decide_eq_true rfl]
      rcases f2 with ⟨-, z⟩ | ⟨g, g1, g2, g3⟩
      · have z0 : sS bi 12 s = 0 := by
          rw [qS_s 12, qS_c 12 (f' := fun _ => false) z]
          rfl
        rw [z0] at e
        unfold mo at e
        rw [decide_eq_false (by omega)] at e
        cases e
      · rw [← g3, l2 g g1 g2]
        rfl
theorem px_r0 (h : PC t bi now tm) {v : Nat} (hv : v < 12) : km_power_37 now (nI v) 0 (tm + 1) 0 0 = nI (C2 (pL (fun c => b32 t c && !decide (c = v)) bi 12) (fun x _ => !mo (qS bi 12 (b32 t)) x && mo (qS bi 12 (b32 t)) (x + pb bi v))) := by
  have h4 := h.2.2.1
  have loop : ∀ (P : Nat → Bool), (∀ s, s < 4096 → P s = (sb (b32 t) 12 s && (!s.testBit v && (!mo (qS bi 12 (b32 t)) (sS bi 12 s) && mo (qS bi 12 (b32 t)) (sS bi 12 s + pb bi v))))) → ∀ (m s : Nat), s + m = tm + 1 → km_power_37 now (nI v) 0 m (nI (pc s P)) (nI s) = nI (pc (tm + 1) P) := by
    intro P hP m
    induction m with
    | zero =>
      intro s hs
      rw [e0_km_power_37, show s = tm + 1 by omega]
    | succ m ih =>
      intro s hs
      have nx : ∀ y : Nat, (if P s = true then 1 else 0) = y → km_power_37 now (nI v) 0 m (nI (pc s P + y)) (nI (s + 1)) = nI (pc (tm + 1) P) := fun y e => by
        rw [← e]
        exact ih (s + 1) (by omega)
      have n0 := nx 0
      have n1 := nx 1
      rw [hP s (by omega)] at n0 n1
      have i1 : nI (pc s P) + 1 = nI (pc s P + 1) := nI_plus _ 1
      rw [e_km_power_37, nJ_1 (n := s) (by omega), Int32.add_zero, i1, if_pos (show (0 : Int32) = 0 from rfl)]
      rw [Nat.add_zero] at n0
      by_cases c : sb (b32 t) 12 s = true
      · rw [if_pos ((px_sub h (by omega)).mpr c)]
        rw [c, Bool.true_and] at n0 n1
        by_cases b : s.testBit v = true
        · rw [if_neg (vh1 (by omega) ((b32_n (by omega)).trans b))]
          exact n0 (if_neg (by rw [b]; simp))
        · have b := eq_false_of_ne_true b
          have q : qS bi 12 (b32 (nI s ||| ((1 : Int32) <<< (nI v &&& 31)))) = sS bi 12 s + pb bi v := by
            rw [qS_s 12]
            exact qS_1 12 hv b (by rw [b32_or, b32_bitn (by omega) (by omega), decide_eq_true rfl, Bool.or_true]) (fun i hi hn => by rw [b32_or, b32_bitn (by omega) (by omega), decide_eq_false hn, Bool.or_false, b32_n (by omega)])
          have q0 : qS bi 12 (b32 (nI s)) = sS bi 12 s := by
            rw [qS_s 12]
            exact qS_c 12 (fun i hi => b32_n (by omega))
          rw [if_pos (vh0 (by omega) ((b32_n (by omega)).trans b)), px_more h, px_more h, q, q0]
          rw [b, Bool.not_false, Bool.true_and] at n0 n1
          by_cases m1 : mo (qS bi 12 (b32 t)) (sS bi 12 s) = true
          · rw [if_pos m1, if_neg (show ¬ (1 : Int32) = 0 by decide)]
            exact n0 (if_neg (by rw [m1]; simp))
          · rw [if_neg m1, if_pos (show (0 : Int32) = 0 from rfl)]
            have m1 := eq_false_of_ne_true m1
            by_cases m2 : mo (qS bi 12 (b32 t)) (sS bi 12 s + pb bi v) = true
            · rw [if_pos m2, if_neg (show ¬ (1 : Int32) = 0 by decide)]
              exact n1 (if_pos (by rw [m1, m2]; rfl))
            · rw [if_neg m2, if_pos (show (0 : Int32) = 0 from rfl)]
              exact n0 (if_neg (by rw [eq_false_of_ne_true m2, Bool.and_false]; decide))
      · rw [if_neg (fun z => c ((px_sub h (by omega)).mp z))]
        exact n0 (if_neg (by rw [eq_false_of_ne_true c, Bool.false_and]; decide))
  have r := loop _ (fun s _ => rfl) (tm + 1) 0 (by omega)
  refine Eq.trans r (congrArg nI ?_)
  rw [px_cut h (fun s _ e => by
    rw [Bool.and_eq_true] at e
    exact e.1), ← sets_C2 12]
  refine pc_congr _ (fun s _ => ?_)
  have e : sb (fun c => b32 t c && !decide (c = v)) 12 s = (sb (b32 t) 12 s && !s.testBit v) := by
    rw [Bool.eq_iff_iff, sb_iff, Bool.and_eq_true, sb_iff, Bool.not_eq_true']
    constructor
    · intro z
      refine ⟨fun g hg hb => ?_, ?_⟩
      · have := z g hg hb
        rw [Bool.and_eq_true] at this
        exact this.1
      · cases e : s.testBit v with
        | false => rfl
        | true =>
          have := z v hv e
          rw [decide_eq_true rfl] at this
          simp at this
    · rintro ⟨z1, z2⟩ g hg hb
      have ne : g ≠ v := fun e => by rw [e, z2] at hb; cases hb
      rw [z1 g hg hb, decide_eq_false ne]
      rfl
  rw [e, Bool.and_assoc]
theorem px_r12 (h : PC t bi now tm) {x y : Int32} (hy : y = 1 ∨ y = 2) : km_power_37 now x y (tm + 1) 0 0 = nI (C2 (pL (b32 t) bi 12) (if y = 1 then fun x _ => mo (qS bi 12 (b32 t)) x else Fl (qS bi 12 (b32 t)))) := by
  have h4 := h.2.2.1
  have y0 : ¬ y = 0 := by rcases hy with e | e <;> rw [e] <;> decide
  have loop : ∀ (P : Nat → Bool), (∀ s, s < 4096 → P s = (sb (b32 t) 12 s && (mo (qS bi 12 (b32 t)) (sS bi 12 s) && (decide (y = 1) || decide (km_isLeast now (nI s) = 1))))) → ∀ (m s : Nat), s + m = tm + 1 → km_power_37 now x y m (nI (pc s P)) (nI s) = nI (pc (tm + 1) P) := by
    intro P hP m
    induction m with
    | zero =>
      intro s hs
      rw [e0_km_power_37, show s = tm + 1 by omega]
    | succ m ih =>
      intro s hs
      have nx : ∀ y' : Nat, (if P s = true then 1 else 0) = y' → km_power_37 now x y m (nI (pc s P + y')) (nI (s + 1)) = nI (pc (tm + 1) P) := fun y' e => by
        rw [← e]
        exact ih (s + 1) (by omega)
      have n0 := nx 0
      have n1 := nx 1
      rw [hP s (by omega)] at n0 n1
      have i1 : nI (pc s P) + 1 = nI (pc s P + 1) := nI_plus _ 1
      rw [e_km_power_37, nJ_1 (n := s) (by omega), Int32.add_zero, i1, if_neg y0]
      rw [Nat.add_zero] at n0
      by_cases c : sb (b32 t) 12 s = true
      · rw [if_pos ((px_sub h (by omega)).mpr c)]
        rw [c, Bool.true_and] at n0 n1
        have q0 : qS bi 12 (b32 (nI s)) = sS bi 12 s := by
          rw [qS_s 12]
          exact qS_c 12 (fun i hi => b32_n (by omega))
        rw [px_more h, q0]
        by_cases m1 : mo (qS bi 12 (b32 t)) (sS bi 12 s) = true
        · rw [if_pos m1, if_neg (show ¬ (1 : Int32) = 0 by decide)]
          rw [m1, Bool.true_and] at n0 n1
          by_cases y1 : y = 1
          · rw [if_pos y1]
            exact n1 (if_pos (by rw [decide_eq_true y1]; rfl))
          · rw [if_neg y1]
            rw [decide_eq_false y1, Bool.false_or] at n0 n1
            rcases px_lst h (s := s) with ⟨l, -⟩ | ⟨l, -⟩
            · rw [if_pos l]
              exact n0 (if_neg (by rw [l]; decide))
            · rw [if_neg (by rw [l]; decide)]
              exact n1 (if_pos (decide_eq_true l))
        · rw [if_neg m1, if_pos (show (0 : Int32) = 0 from rfl)]
          exact n0 (if_neg (by rw [eq_false_of_ne_true m1, Bool.false_and]; decide))
      · rw [if_neg (fun z => c ((px_sub h (by omega)).mp z))]
        exact n0 (if_neg (by rw [eq_false_of_ne_true c, Bool.false_and]; decide))
  have r := loop _ (fun s _ => rfl) (tm + 1) 0 (by omega)
  refine Eq.trans r (congrArg nI ?_)
  rw [px_cut h (fun s _ e => by
    rw [Bool.and_eq_true] at e
    exact e.1), ← sets_C2 12]
  refine pc_congr _ (fun s _ => ?_)
  by_cases y1 : y = 1
  · rw [if_pos y1, decide_eq_true y1, Bool.true_or, Bool.and_true]
  · rw [if_neg y1, decide_eq_false y1, Bool.false_or, px_Fl h]
theorem power_pure (h : PC t bi now tm) (h40 : a40.length = 241) {x y : Int32} : (kc_power t bi a40 x y).1 = km_power now x y := by
  have lal := qS_le h (f := b32 t) 12 (by omega)
  have h4 := h.2.2.1
  have em : ((now.getD 144 0).toInt + 1).toNat = tm + 1 := by
    rw [← h.1, h.2.1, nI_toInt (by omega)]
    omega
  have un : kt_isTold t (-1) = 0 ∧ km_isGuest now (-1) = 0 := by
    have k0 : kt_isTold t (-1) = 0 := by
      unfold kt_isTold
      rw [if_pos (by decide)]
    exact ⟨k0, (told_same h.1 (-1)).symm.trans k0⟩
  have sw : ∀ x : Int32, ¬ kt_isTold t x = 0 → (kv_setsSwungBy t bi a40 x).1 = km_power_37 now x 0 (tm + 1) 0 0 := fun x hx => by
    obtain ⟨v, hv, rfl⟩ : ∃ v : Nat, v < 12 ∧ x = nI v := by
      rcases kt_told t x with ⟨a, -⟩ | ⟨-, a, -⟩
      · exact absurd a hx
      · exact ⟨x.toInt.toNat, by omega, nJ_of (by omega)⟩
    rw [px_r0 h hv]
    unfold kv_setsSwungBy
    rw [nJ_ix (n := v) (by omega), (px_b h hv).1]
    refine turned_c (px_b h hv).2 ?_ lal (px_all h) (px_swung h hv h40)
    have s := sum_le (pL (fun c => b32 t c && !decide (c = v)) bi 12) (fun u hu => by
      obtain ⟨c, c1, -, rfl⟩ := pL_mem 12 hu
      exact (px_b h c1).2)
    have l := pL_len (T := fun c => b32 t c && !decide (c = v)) (bi := bi) 12
    omega
  have rest : ∀ x : Int32, ¬ x = -1 → ∀ y : Int32, ((if kt_isTold t x = 0 then ((-1), a40) else (if y = 0 then ((kv_setsSwungBy t bi a40 x).1, (kv_setsSwungBy t bi a40 x).2) else ((-1), a40))) : Int32 × List Int32).1 = (if y = 0 then (if km_isGuest now x = 0 then (-1) else km_power_37 now x y (tm + 1) 0 0) else (-1)) := fun x hx y => by
    rw [← told_same h.1 x]
    by_cases a : kt_isTold t x = 0
    · rw [if_pos a, if_pos a]
      split <;> rfl
    · rw [if_neg a, if_neg a]
      by_cases b : y = 0
      · rw [if_pos b, if_pos b, b]
        exact sw x a
      · rw [if_neg b, if_neg b]
  unfold kc_power km_power
  rw [em]
  by_cases x1 : x = -1
  · rw [if_pos x1, if_pos x1]
    by_cases y1 : y = 1
    · rw [if_pos y1, if_neg (show ¬ y = 0 by rw [y1]; decide), if_neg (show ¬ km_in y 1 2 = 0 by rw [y1]; decide), px_r12 h (Or.inl y1), if_pos y1]
      show (kv_winningSets t bi a40).1 = _
      have w := px_win h h40
      have s := pL_sum h 12 (by omega)
      unfold kv_winningSets
      rw [px_all h, w.1, show ((Int32.ofNat 241).toInt).toNat = 241 from rfl]
      exact winning_c (by omega) lal w
    · rw [if_neg y1]
      by_cases y2 : y = 2
      · rw [if_pos y2, if_neg (show ¬ y = 0 by rw [y2]; decide), if_neg (show ¬ km_in y 1 2 = 0 by rw [y2]; decide), px_r12 h (Or.inr y2), if_neg y1]
        exact px_least h h40
      · rw [if_neg y2]
        have i0 : km_in y 1 2 = 0 := in_0.mpr (fun z => by
          have e1 : (1 : Int32).toInt = 1 := rfl
          have e2 : (2 : Int32).toInt = 2 := rfl
          have n1 : y.toInt ≠ 1 := fun e => y1 (Int32.toInt_inj.mp e)
          have n2 : y.toInt ≠ 2 := fun e => y2 (Int32.toInt_inj.mp e)
          omega)
        rw [x1, if_pos un.1, if_pos un.2, if_pos i0]
        split <;> rfl
  · rw [if_neg x1, if_neg x1]
    exact rest x x1 y
end PX
section ANPX
variable {as : List Int32} {hp hp1 hp2 : sm_H} {r1 r2 : Int32}
theorem an_power (hl : as.length = 2) (hI : ivH IV hp) (hR : R1 hp) (m1 : EM 400 103 (.ref 0 :: as.map Value.int) hp (some (.int r1)) hp1) (hI1 : ivH IV hp1) (m2 : EM 400 228 (.ref 67 :: as.map Value.int) hp1 (some (.int r2)) hp2) : r1 = r2 := by
  obtain ⟨x, y, rfl⟩ := ln2 hl
  have b := iv_fb (k := 3) (j := 1) (b := (0, 4095)) hI rfl
  have w144 : (exA hp 68).getD 144 0 = exF hp 3 1 := hR.1.2.1.symm
  obtain ⟨e1, h1⟩ := u_kc_power hI m1
  have w : exA hp1 68 = exA hp 68 := by rw [h1]; rfl
  obtain ⟨e2, -⟩ := u_km_power hI1 (by rw [w, w144]; have := b.2; dsimp only at this; omega) m2
  rw [e1, e2, w]
  have b1 := b.1
  have b2 := b.2
  dsimp only at b1 b2
  exact power_pure (tm := (exF hp 3 1).toInt.toNat) ⟨hR.1.2.1, nJ_of (by omega), by omega, hR.1.2.2.2.1, fun g hg => bd_at (lo := 0) (hi := 0) hI rfl hg⟩ (iv_len (k := 40) hI rfl (by decide))
end ANPX
