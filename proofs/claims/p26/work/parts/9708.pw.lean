/-! power: sets by their sums on one side, sets one by one on the other -/
noncomputable def pc : Nat → (Nat → Bool) → Nat
  | 0, _ => 0
  | n + 1, f => pc n f + (if f n = true then 1 else 0)
theorem pc_congr {f g : Nat → Bool} : ∀ (n : Nat), (∀ i, i < n → f i = g i) → pc n f = pc n g
  | 0, _ => rfl
  | n + 1, h => by
    show pc n f + (if f n = true then 1 else 0) = pc n g + (if g n = true then 1 else 0)
    rw [pc_congr n (fun i hi => h i (by omega)), h n (by omega)]
theorem pc_0 : ∀ (n : Nat), pc n (fun _ => false) = 0
  | 0 => rfl
  | n + 1 => by
    show pc n (fun _ => false) + (if (false : Bool) = true then 1 else 0) = 0
    rw [pc_0 n]
    rfl
theorem pc_add {f : Nat → Bool} (a : Nat) : ∀ (b : Nat), pc (a + b) f = pc a f + pc b (fun s => f (a + s))
  | 0 => rfl
  | b + 1 => by
    show pc (a + b) f + (if f (a + b) = true then 1 else 0) = pc a f + (pc b (fun s => f (a + s)) + (if f (a + b) = true then 1 else 0))
    rw [pc_add a b]
    omega
theorem pc_cut {f : Nat → Bool} {a b : Nat} (hab : a ≤ b) (h : ∀ s, a ≤ s → s < b → f s = false) : pc b f = pc a f := by
  rw [show b = a + (b - a) by omega, pc_add, pc_congr (b - a) (g := fun _ => false) (fun i hi => h (a + i) (by omega) (by omega)), pc_0]
  omega
/-- sublists by their sum and their least element (21 for none) -/
noncomputable def C2 : List Nat → (Nat → Nat → Bool) → Nat
  | [], F => if F 0 21 = true then 1 else 0
  | v :: L, F => C2 L F + C2 L (fun x m => F (x + v) (min m v))
theorem C2_congr : ∀ (L : List Nat) {F G : Nat → Nat → Bool}, (∀ x m, F x m = G x m) → C2 L F = C2 L G
  | [], F, G, h => by
    show (if F 0 21 = true then 1 else 0) = (if G 0 21 = true then 1 else 0)
    rw [h]
  | v :: L, F, G, h => by
    show C2 L F + C2 L (fun x m => F (x + v) (min m v)) = C2 L G + C2 L (fun x m => G (x + v) (min m v))
    rw [C2_congr L h, C2_congr L (fun x m => h (x + v) (min m v))]
theorem C2_false : ∀ (L : List Nat), C2 L (fun _ _ => false) = 0
  | [] => rfl
  | v :: L => by
    show C2 L (fun _ _ => false) + C2 L (fun _ _ => false) = 0
    rw [C2_false L]
/-- where all elements are at least v, so is the least one -/
theorem C2_ge {v : Nat} (hv : v ≤ 21) : ∀ (L : List Nat) {F G : Nat → Nat → Bool}, (∀ u, u ∈ L → v ≤ u) → (∀ x m, v ≤ m → F x m = G x m) → C2 L F = C2 L G
  | [], F, G, _, h => by
    show (if F 0 21 = true then 1 else 0) = (if G 0 21 = true then 1 else 0)
    rw [h 0 21 hv]
  | w :: L, F, G, hL, h => by
    have hw := hL w (List.mem_cons_self ..)
    show C2 L F + C2 L (fun x m => F (x + w) (min m w)) = C2 L G + C2 L (fun x m => G (x + w) (min m w))
    rw [C2_ge hv L (fun u hu => hL u (List.mem_cons_of_mem _ hu)) h, C2_ge hv L (F := fun x m => F (x + w) (min m w)) (G := fun x m => G (x + w) (min m w)) (fun u hu => hL u (List.mem_cons_of_mem _ hu)) (fun x m hm => h (x + w) (min m w) (by omega))]
theorem C2_perm {L L' : List Nat} (h : L.Perm L') : ∀ (F : Nat → Nat → Bool), C2 L F = C2 L' F := by
  induction h with
  | nil => intro F; rfl
  | cons v _ ih =>
    intro F
    show C2 _ F + C2 _ (fun x m => F (x + v) (min m v)) = C2 _ F + C2 _ (fun x m => F (x + v) (min m v))
    rw [ih, ih]
  | swap u v L =>
    intro F
    show (C2 L F + C2 L (fun x m => F (x + u) (min m u))) + (C2 L (fun x m => F (x + v) (min m v)) + C2 L (fun x m => F (x + u + v) (min (min m u) v))) = (C2 L F + C2 L (fun x m => F (x + v) (min m v))) + (C2 L (fun x m => F (x + u) (min m u)) + C2 L (fun x m => F (x + v + u) (min (min m v) u)))
    rw [C2_congr L (F := fun x m => F (x + u + v) (min (min m u) v)) (G := fun x m => F (x + v + u) (min (min m v) u)) (fun x m => by rw [show x + u + v = x + v + u by omega, show min (min m u) v = min (min m v) u by omega])]
    omega
  | trans _ _ ih1 ih2 => intro F; rw [ih1, ih2]
/-- how many sublists have a sum -/
noncomputable def pW : List Nat → Nat → Nat
  | [], x => if x = 0 then 1 else 0
  | v :: L, x => pW L x + (if v ≤ x then pW L (x - v) else 0)
noncomputable def sN : Nat → (Nat → Nat) → Nat
  | 0, _ => 0
  | n + 1, f => sN n f + f n
theorem sN_congr {f g : Nat → Nat} : ∀ (n : Nat), (∀ i, i < n → f i = g i) → sN n f = sN n g
  | 0, _ => rfl
  | n + 1, h => by
    show sN n f + f n = sN n g + g n
    rw [sN_congr n (fun i hi => h i (by omega)), h n (by omega)]
theorem sN_add {f g : Nat → Nat} : ∀ (n : Nat), sN n (fun i => f i + g i) = sN n f + sN n g
  | 0 => rfl
  | n + 1 => by
    show sN n (fun i => f i + g i) + (f n + g n) = (sN n f + f n) + (sN n g + g n)
    rw [sN_add n]
    omega
theorem sN_0 : ∀ (n : Nat), sN n (fun _ => 0) = 0
  | 0 => rfl
  | n + 1 => by
    show sN n (fun _ => 0) + 0 = 0
    rw [sN_0 n]
theorem sN_sh {v : Nat} {g : Nat → Nat} : ∀ (k : Nat), sN (v + k) (fun x => if v ≤ x then g (x - v) else 0) = sN k g
  | 0 => by
    rw [Nat.add_zero, sN_congr v (g := fun _ => 0) (fun i hi => if_neg (by omega)), sN_0]
    rfl
  | k + 1 => by
    show sN (v + k) (fun x => if v ≤ x then g (x - v) else 0) + (if v ≤ v + k then g (v + k - v) else 0) = sN k g + g k
    rw [sN_sh k, if_pos (by omega), show v + k - v = k by omega]
theorem sN_first {f : Nat → Nat} : ∀ (n : Nat), (∀ i, 0 < i → i < n + 1 → f i = 0) → sN (n + 1) f = f 0
  | 0, _ => by show 0 + f 0 = f 0; omega
  | n + 1, h => by
    show sN (n + 1) f + f (n + 1) = f 0
    rw [sN_first n (fun i h1 h2 => h i h1 (by omega)), h (n + 1) (by omega) (by omega)]
    omega
theorem sW : ∀ (L : List Nat) (F : Nat → Bool) (n : Nat), L.sum < n → sN n (fun x => if F x = true then pW L x else 0) = C2 L (fun x _ => F x)
  | [], F, n, h => by
    obtain ⟨k, rfl⟩ : ∃ k, n = k + 1 := ⟨n - 1, by rw [List.sum_nil] at h; omega⟩
    rw [sN_first k (fun i h1 _ => by
      show (if F i = true then (if i = 0 then 1 else 0) else 0) = 0
      rw [if_neg (show ¬ i = 0 by omega)]
      split <;> rfl)]
    rfl
  | v :: L, F, n, h => by
    rw [List.sum_cons] at h
    show sN n (fun x => if F x = true then pW L x + (if v ≤ x then pW L (x - v) else 0) else 0) = C2 L (fun x _ => F x) + C2 L (fun x m => F (x + v))
    rw [← sW L F n (by omega), ← sW L (fun x => F (x + v)) (n - v) (by omega), ← sN_sh (v := v) (n - v), show v + (n - v) = n by omega, ← sN_add]
    refine sN_congr n (fun x _ => ?_)
    show (if F x = true then pW L x + (if v ≤ x then pW L (x - v) else 0) else 0) = (if F x = true then pW L x else 0) + (if v ≤ x then (if F (x - v + v) = true then pW L (x - v) else 0) else 0)
    by_cases a : v ≤ x
    · rw [if_pos a, if_pos a, show x - v + v = x by omega]
      by_cases b : F x = true
      · rw [if_pos b, if_pos b, if_pos b]
      · rw [if_neg b, if_neg b, if_neg b]
    · rw [if_neg a, if_neg a]
      by_cases b : F x = true
      · rw [if_pos b, if_pos b]
      · rw [if_neg b, if_neg b]
section PW
variable {t : Int32} {bi now a40 : List Int32} {al : Nat}
noncomputable def pb (bi : List Int32) (g : Nat) : Nat := (bi.getD g 0).toInt.toNat
/-- biscuits of the told ones, the last first; one left out -/
noncomputable def pL (T : Nat → Bool) (bi : List Int32) : Nat → List Nat
  | 0 => []
  | n + 1 => if T n = true then pb bi n :: pL T bi n else pL T bi n
/-- of a set by its bits: told ones alone; the sum; the least -/
noncomputable def sb (T : Nat → Bool) : Nat → Nat → Bool
  | 0, _ => true
  | n + 1, s => sb T n s && (!s.testBit n || T n)
noncomputable def sS (bi : List Int32) : Nat → Nat → Nat
  | 0, _ => 0
  | n + 1, s => sS bi n s + (if s.testBit n = true then pb bi n else 0)
noncomputable def sM (bi : List Int32) : Nat → Nat → Nat
  | 0, _ => 21
  | n + 1, s => if s.testBit n = true then min (sM bi n s) (pb bi n) else sM bi n s
theorem sbm_c {T : Nat → Bool} {s s' : Nat} : ∀ (n : Nat), (∀ i, i < n → s.testBit i = s'.testBit i) → sb T n s = sb T n s' ∧ sS bi n s = sS bi n s' ∧ sM bi n s = sM bi n s'
  | 0, _ => ⟨rfl, rfl, rfl⟩
  | n + 1, h => by
    obtain ⟨a, b, c⟩ := sbm_c (T := T) n (fun i hi => h i (by omega))
    refine ⟨?_, ?_, ?_⟩
    · show (sb T n s && (!s.testBit n || T n)) = (sb T n s' && (!s'.testBit n || T n))
      rw [a, h n (by omega)]
    · show sS bi n s + (if s.testBit n = true then pb bi n else 0) = sS bi n s' + (if s'.testBit n = true then pb bi n else 0)
      rw [b, h n (by omega)]
    · show (if s.testBit n = true then min (sM bi n s) (pb bi n) else sM bi n s) = (if s'.testBit n = true then min (sM bi n s') (pb bi n) else sM bi n s')
      rw [c, h n (by omega)]
/-- all sets of told ones, one by one -/
theorem sets_C2 {T : Nat → Bool} : ∀ (n : Nat) (F : Nat → Nat → Bool), pc (2 ^ n) (fun s => sb T n s && F (sS bi n s) (sM bi n s)) = C2 (pL T bi n) F
  | 0, F => by
    show 0 + (if (true && F 0 21) = true then 1 else 0) = (if F 0 21 = true then 1 else 0)
    rw [Bool.true_and, Nat.zero_add]
  | n + 1, F => by
    rw [show 2 ^ (n + 1) = 2 ^ n + 2 ^ n by rw [Nat.pow_succ]; omega, pc_add]
    have h1 : pc (2 ^ n) (fun s => sb T (n + 1) s && F (sS bi (n + 1) s) (sM bi (n + 1) s)) = C2 (pL T bi n) F := by
      rw [← sets_C2 n F]
      refine pc_congr _ (fun s hs => ?_)
      have b := Nat.testBit_lt_two_pow hs
      show ((sb T n s && (!s.testBit n || T n)) && F (sS bi n s + (if s.testBit n = true then pb bi n else 0)) (if s.testBit n = true then min (sM bi n s) (pb bi n) else sM bi n s)) = _
      rw [b, if_neg (by decide), if_neg (by decide)]
      cases sb T n s <;> rfl
    have h2 : pc (2 ^ n) (fun s => sb T (n + 1) (2 ^ n + s) && F (sS bi (n + 1) (2 ^ n + s)) (sM bi (n + 1) (2 ^ n + s))) = if T n = true then C2 (pL T bi n) (fun x m => F (x + pb bi n) (min m (pb bi n))) else 0 := by
      have st : ∀ s, s < 2 ^ n → (sb T (n + 1) (2 ^ n + s) && F (sS bi (n + 1) (2 ^ n + s)) (sM bi (n + 1) (2 ^ n + s))) = ((sb T n s && T n) && F (sS bi n s + pb bi n) (min (sM bi n s) (pb bi n))) := fun s hs => by
        have b : (2 ^ n + s).testBit n = true := by rw [Nat.testBit_two_pow_add_eq, Nat.testBit_lt_two_pow hs]; rfl
        obtain ⟨e1, e2, e3⟩ := sbm_c (T := T) (bi := bi) (s := 2 ^ n + s) (s' := s) n (fun i hi => Nat.testBit_two_pow_add_gt hi s)
        show ((sb T n (2 ^ n + s) && (!(2 ^ n + s).testBit n || T n)) && F (sS bi n (2 ^ n + s) + (if (2 ^ n + s).testBit n = true then pb bi n else 0)) (if (2 ^ n + s).testBit n = true then min (sM bi n (2 ^ n + s)) (pb bi n) else sM bi n (2 ^ n + s))) = _
        rw [b, if_pos rfl, if_pos rfl, e1, e2, e3]
        rfl
      rw [pc_congr (2 ^ n) (g := fun s => ((sb T n s && T n) && F (sS bi n s + pb bi n) (min (sM bi n s) (pb bi n)))) st]
      by_cases hT : T n = true
      · rw [if_pos hT, ← sets_C2 n (fun x m => F (x + pb bi n) (min m (pb bi n)))]
        refine pc_congr _ (fun s _ => ?_)
        show ((sb T n s && T n) && F (sS bi n s + pb bi n) (min (sM bi n s) (pb bi n))) = (sb T n s && F (sS bi n s + pb bi n) (min (sM bi n s) (pb bi n)))
        rw [hT, Bool.and_true]
      · rw [if_neg hT, pc_congr (2 ^ n) (g := fun _ => false) (fun s _ => by
          show ((sb T n s && T n) && F (sS bi n s + pb bi n) (min (sM bi n s) (pb bi n))) = false
          rw [eq_false_of_ne_true hT, Bool.and_false]
          rfl), pc_0]
    rw [h1, h2]
    show _ = C2 (if T n = true then pb bi n :: pL T bi n else pL T bi n) F
    by_cases hT : T n = true
    · rw [if_pos hT, if_pos hT]
      rfl
    · rw [if_neg hT, if_neg hT]
      rfl
/-- an array that has how many sublists of L have each sum -/
noncomputable def pA (L : List Nat) (a : List Int32) : Prop := a.length = 241 ∧ ∀ x, x < 241 → a.getD x 0 = nI (pW L x)
theorem pA_0 (h : a40.length = 241) : pA [] (kv_beginSets a40) := by
  have loop : ∀ (m i : Nat) (l : List Int32), i + m = 241 → l.length = 241 → (∀ q, q < i → l.getD q 0 = 0) → (kja_fill_40_5 0 m (nI i) l).length = 241 ∧ ∀ q, q < 241 → (kja_fill_40_5 0 m (nI i) l).getD q 0 = 0 := by
    intro m
    induction m with
    | zero =>
      intro i l hi hl he
      rw [e0_kja_fill_40_5]
      rw [show i = 241 by omega] at he
      exact ⟨hl, he⟩
    | succ m ih =>
      intro i l hi hl he
      rw [e_kja_fill_40_5, nJ_ix (n := i) (by omega), nJ_1 (n := i) (by omega)]
      refine ih (i + 1) _ (by omega) (by rw [List.length_set]; exact hl) (fun q hq => ?_)
      rw [gd_set (by omega)]
      by_cases e : q = i
      · rw [if_pos e]
      · rw [if_neg e]
        exact he q (by omega)
  obtain ⟨q1, q2⟩ := loop 241 0 a40 rfl h (fun q hq => by omega)
  unfold kv_beginSets kja_fill_40
  rw [h, show ((Int32.ofNat 241).toInt).toNat = 241 from rfl]
  have q1 : (kja_fill_40_5 0 241 0 a40).length = 241 := q1
  have q2 : ∀ q, q < 241 → (kja_fill_40_5 0 241 0 a40).getD q 0 = 0 := q2
  refine ⟨by rw [List.length_set]; exact q1, fun x hx => ?_⟩
  rw [gd_set (by omega), q2 x hx]
  show _ = nI (if x = 0 then 1 else 0)
  by_cases e : x = 0
  · rw [if_pos e, if_pos e]
    rfl
  · rw [if_neg e, if_neg e]
    rfl
theorem pA_join {L : List Nat} {v : Nat} (hv : v ≤ 20) (h : pA L a40) : pA (v :: L) (kv_joinSets a40 (nI v)) := by
  have ev := nI_toInt (n := v) (by omega)
  have loop : ∀ (m : Nat) (y : Int32) (l : List Int32), v + m ≤ 241 → (m = 0 ∨ y = nI (v + m - 1)) → l.length = 241 → (∀ x, x < 241 → l.getD x 0 = if v + m ≤ x then nI (pW (v :: L) x) else nI (pW L x)) → (kv_joinSets_8 (nI v) m y l).length = 241 ∧ ∀ x, x < 241 → (kv_joinSets_8 (nI v) m y l).getD x 0 = if v ≤ x then nI (pW (v :: L) x) else nI (pW L x) := by
    intro m
    induction m with
    | zero =>
      intro y l _ _ hl he
      rw [e0_kv_joinSets_8]
      exact ⟨hl, he⟩
    | succ m ih =>
      intro y l hm hy hl he
      have hy : y = nI (v + m) := by
        rcases hy with e | e
        · omega
        · exact e
      have ey := nI_toInt (n := v + m) (by omega)
      have ix : (nI (v + m) - nI v).toInt.toNat = m := by
        rw [an_sub32 (by omega) (by omega)]
        omega
      rw [e_kv_joinSets_8, hy, nJ_ix (n := v + m) (by omega), ix]
      refine ih _ _ (by omega) ?_ (by rw [List.length_set]; exact hl) (fun x hx => ?_)
      · by_cases e : m = 0
        · exact Or.inl e
        · refine Or.inr (Int32.toInt_inj.mp ?_)
          have e1 := nI_toInt (n := v + m - 1) (by omega)
          have em : (-1 : Int32).toInt = -1 := rfl
          rw [an_add32 (by omega) (by omega)]
          omega
      · rw [gd_set (by omega), he x hx, he (v + m) (by omega), he m (by omega), if_neg (show ¬ v + (m + 1) ≤ v + m by omega)]
        by_cases e : x = v + m
        · rw [if_pos e, if_pos (show v + m ≤ x by omega), if_neg (show ¬ v + (m + 1) ≤ m by omega), nI_plus, e]
          show nI (pW L (v + m) + pW L m) = nI (pW L (v + m) + (if v ≤ v + m then pW L (v + m - v) else 0))
          rw [if_pos (by omega), show v + m - v = m by omega]
        · rw [if_neg e]
          by_cases e2 : v + (m + 1) ≤ x
          · rw [if_pos e2, if_pos (by omega)]
          · rw [if_neg e2, if_neg (by omega)]
  obtain ⟨h1, h2⟩ := h
  have q := loop (241 - v) (nI 240) a40 (by omega) (Or.inr (by rw [show v + (241 - v) - 1 = 240 by omega])) h1 (fun x hx => by rw [if_neg (by omega)]; exact h2 x hx)
  unfold kv_joinSets
  rw [h1, ev, show ((Int32.ofNat 241 - 1).toInt + 1 - (v : Int)).toNat = 241 - v by
    rw [show (Int32.ofNat 241 - 1).toInt = 240 from rfl]
    omega]
  have q : (kv_joinSets_8 (nI v) (241 - v) (Int32.ofNat 241 - 1) a40).length = 241 ∧ ∀ x, x < 241 → (kv_joinSets_8 (nI v) (241 - v) (Int32.ofNat 241 - 1) a40).getD x 0 = if v ≤ x then nI (pW (v :: L) x) else nI (pW L x) := q
  refine ⟨q.1, fun x hx => ?_⟩
  rw [q.2 x hx]
  by_cases e : v ≤ x
  · rw [if_pos e]
  · rw [if_neg e]
    show nI (pW L x) = nI (pW L x + (if v ≤ x then pW L (x - v) else 0))
    rw [if_neg e]
    rfl
/-- more than half -/
noncomputable def mo (al x : Nat) : Bool := decide (al < 2 * x)
theorem two_n {x : Nat} (h : x < 100000) : (2 * nI x).toInt = 2 * (x : Int) := by
  rw [show (2 : Int32) = nI 2 from rfl]
  have e : nI 2 * nI x = nI (2 * x) := by
    refine Int32.toBitVec_inj.mp ?_
    rw [Int32.toBitVec_mul]
    exact (BitVec.ofNat_mul 2 x).symm
  rw [e, nI_toInt (by omega)]
  omega
theorem turned_c {L : List Nat} {v : Nat} (hv : v ≤ 20) (hs : L.sum ≤ 240) (hal : al ≤ 240) (hA : kt_allBiscuits t bi = nI al) (h : pA L a40) : kv_setsTurnedBy t bi a40 (nI v) = nI (C2 L (fun x _ => !mo al x && mo al (x + v))) := by
  rw [← sW L (fun x => !mo al x && mo al (x + v)) 241 (by omega)]
  obtain ⟨h1, h2⟩ := h
  have ea := nI_toInt (n := al) (by omega)
  have loop : ∀ (m x : Nat), x + m = 241 → kv_setsTurnedBy_13 a40 (nI v) (nI al) m (nI (sN x (fun x => if (!mo al x && mo al (x + v)) = true then pW L x else 0))) (nI x) = nI (sN 241 (fun x => if (!mo al x && mo al (x + v)) = true then pW L x else 0)) := by
    intro m
    induction m with
    | zero =>
      intro x hx
      rw [e0_kv_setsTurnedBy_13, show x = 241 by omega]
    | succ m ih =>
      intro x hx
      have nx : ∀ y : Nat, (if (!mo al x && mo al (x + v)) = true then pW L x else 0) = y → kv_setsTurnedBy_13 a40 (nI v) (nI al) m (nI (sN x (fun x => if (!mo al x && mo al (x + v)) = true then pW L x else 0) + y)) (nI (x + 1)) = nI (sN 241 (fun x => if (!mo al x && mo al (x + v)) = true then pW L x else 0)) := fun y e => by
        rw [← e]
        exact ih (x + 1) (by omega)
      rw [e_kv_setsTurnedBy_13, nJ_1 (n := x) (by omega), nJ_ix (n := x) (by omega), nI_plus x v, two_n (by omega), two_n (by omega), ea, h2 x (by omega), nI_plus]
      unfold mo at nx ⊢
      by_cases a : (al : Int) < 2 * (x : Int)
      · rw [if_pos a]
        exact nx 0 (if_neg (by rw [decide_eq_true (show al < 2 * x by omega)]; exact fun z => Bool.false_ne_true z))
      · rw [if_neg a]
        by_cases b : (al : Int) < 2 * ((x + v : Nat) : Int)
        · rw [if_pos b]
          exact nx (pW L x) (if_pos (by rw [decide_eq_false (show ¬ al < 2 * x by omega), decide_eq_true (show al < 2 * (x + v) by omega)]; rfl))
        · rw [if_neg b]
          exact nx 0 (if_neg (by rw [decide_eq_false (show ¬ al < 2 * (x + v) by omega), Bool.and_false]; decide))
  unfold kv_setsTurnedBy
  rw [hA, h1, show ((Int32.ofNat 241).toInt).toNat = 241 from rfl]
  exact loop 241 0 rfl
theorem winning_c {L : List Nat} (hs : L.sum ≤ 240) (hal : al ≤ 240) (h : pA L a40) : kv_winningSets_54 a40 (nI al) 241 0 0 = nI (C2 L (fun x _ => mo al x)) := by
  rw [← sW L (fun x => mo al x) 241 (by omega)]
  obtain ⟨h1, h2⟩ := h
  have ea := nI_toInt (n := al) (by omega)
  have loop : ∀ (m x : Nat), x + m = 241 → kv_winningSets_54 a40 (nI al) m (nI (sN x (fun x => if mo al x = true then pW L x else 0))) (nI x) = nI (sN 241 (fun x => if mo al x = true then pW L x else 0)) := by
    intro m
    induction m with
    | zero =>
      intro x hx
      rw [e0_kv_winningSets_54, show x = 241 by omega]
    | succ m ih =>
      intro x hx
      have nx : ∀ y : Nat, (if mo al x = true then pW L x else 0) = y → kv_winningSets_54 a40 (nI al) m (nI (sN x (fun x => if mo al x = true then pW L x else 0) + y)) (nI (x + 1)) = nI (sN 241 (fun x => if mo al x = true then pW L x else 0)) := fun y e => by
        rw [← e]
        exact ih (x + 1) (by omega)
      rw [e_kv_winningSets_54, nJ_1 (n := x) (by omega), nJ_ix (n := x) (by omega), two_n (by omega), ea, h2 x (by omega), nI_plus]
      unfold mo at nx ⊢
      by_cases a : (al : Int) < 2 * (x : Int)
      · rw [if_pos a]
        exact nx (pW L x) (if_pos (decide_eq_true (show al < 2 * x by omega)))
      · rw [if_neg a]
        exact nx 0 (if_neg (by rw [decide_eq_false (show ¬ al < 2 * x by omega)]; decide))
  exact loop 241 0 rfl
end PW
