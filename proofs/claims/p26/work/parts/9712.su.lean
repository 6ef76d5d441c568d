/-! what is sure whatever the undecided do -/
theorem nI_mul (a b : Nat) : nI a * nI b = nI (a * b) := by
  refine Int32.toBitVec_inj.mp ?_
  rw [Int32.toBitVec_mul]
  exact (BitVec.ofNat_mul a b).symm
theorem nI_div {a b : Nat} (ha : a < 2147483648) (hb : b < 2147483648) : nI a / nI b = nI (a / b) := by
  have e1 := nI_toInt (n := a) (by omega)
  have e2 := nI_toInt (n := b) (by omega)
  have e3 := nI_toInt (n := a / b) (by have := Nat.div_le_self a b; omega)
  refine Int32.toInt_inj.mp ?_
  rw [Int32.toInt_div_of_ne_right _ _ (nI_m1 (by omega)), e1, e2, e3]
  exact (Int.ofNat_tdiv a b).symm
/-- told ones of a set, in a row -/
noncomputable def wl : Nat → Nat → List Nat
  | 0, _ => []
  | n + 1, s => if s.testBit n = true then wl n s ++ [n] else wl n s
theorem wl_len (s : Nat) : ∀ n, (wl n s).length = pop n s
  | 0 => rfl
  | n + 1 => by
    have tb : s.testBit n = decide ((s >>> n) % 2 = 1) := by
      rw [Nat.testBit_eq_decide_div_mod_eq, Nat.shiftRight_eq_div_pow]
    show (if s.testBit n = true then wl n s ++ [n] else wl n s).length = pop n s + (s >>> n) % 2
    rw [tb]
    by_cases c : (s >>> n) % 2 = 1
    · rw [decide_eq_true c, if_pos rfl, List.length_append, wl_len s n, c]
      rfl
    · rw [decide_eq_false c, if_neg (by decide), wl_len s n]
      omega
theorem wl_mem {s u : Nat} : ∀ n, u ∈ wl n s → u < n
  | 0, h => by cases h
  | n + 1, h => by
    have h : u ∈ (if s.testBit n = true then wl n s ++ [n] else wl n s) := h
    by_cases c : s.testBit n = true
    · rw [if_pos c, List.mem_append, List.mem_singleton] at h
      rcases h with h | h
      · have := wl_mem n h; omega
      · omega
    · rw [if_neg c] at h
      have := wl_mem n h
      omega
noncomputable def nb (bi : List Int32) (g : Nat) : Nat := (bi.getD g 0).toInt.toNat
/-- all that some have; what they give to q in a way -/
noncomputable def LN (bi : List Int32) : List Nat → Nat
  | [] => 0
  | g :: L => nb bi g + LN bi L
noncomputable def aN (bi : List Int32) (n : Nat) : List Nat → Nat → Nat → Nat
  | [], _, _ => 0
  | g :: L, w, q => (if w % n = q then nb bi g else 0) + aN bi n L (w / n) q
theorem LN_app {bi : List Int32} {g : Nat} : ∀ L, LN bi (L ++ [g]) = LN bi L + nb bi g
  | [] => by show nb bi g + 0 = 0 + nb bi g; omega
  | h :: L => by
    show nb bi h + LN bi (L ++ [g]) = nb bi h + LN bi L + nb bi g
    rw [LN_app L]
    omega
theorem aN_le {bi : List Int32} {n q : Nat} : ∀ L w, aN bi n L w q ≤ LN bi L
  | [], _ => Nat.le_refl _
  | g :: L, w => by
    have := aN_le (bi := bi) (n := n) (q := q) L (w / n)
    show (if w % n = q then nb bi g else 0) + aN bi n L (w / n) q ≤ nb bi g + LN bi L
    split <;> omega
/-- the way in which all give to i -/
noncomputable def rep (n i : Nat) : Nat → Nat
  | 0 => 0
  | k + 1 => i + n * rep n i k
theorem rep_lt {n i : Nat} (hi : i < n) : ∀ k, rep n i k < n ^ k
  | 0 => by show 0 < 1; omega
  | k + 1 => by
    have h := rep_lt hi k
    show i + n * rep n i k < n ^ (k + 1)
    have h2 : n * (rep n i k + 1) ≤ n * n ^ k := Nat.mul_le_mul_left n h
    rw [Nat.pow_succ, Nat.mul_comm (n ^ k) n]
    rw [Nat.mul_add, Nat.mul_one] at h2
    omega
theorem rep_a {bi : List Int32} {n i : Nat} (hi : i < n) {q : Nat} : ∀ L : List Nat, aN bi n L (rep n i L.length) q = if q = i then LN bi L else 0
  | [] => by
    show 0 = if q = i then 0 else 0
    split <;> rfl
  | g :: L => by
    have e1 : rep n i (g :: L).length % n = i := by
      show (i + n * rep n i L.length) % n = i
      rw [Nat.add_mul_mod_self_left, Nat.mod_eq_of_lt hi]
    have e2 : rep n i (g :: L).length / n = rep n i L.length := by
      show (i + n * rep n i L.length) / n = rep n i L.length
      rw [Nat.add_mul_div_left _ _ (by omega), Nat.div_eq_of_lt hi, Nat.zero_add]
    show (if rep n i (g :: L).length % n = q then nb bi g else 0) + aN bi n L (rep n i (g :: L).length / n) q = if q = i then nb bi g + LN bi L else 0
    rw [e1, e2, rep_a hi L]
    by_cases e : q = i
    · rw [if_pos e, if_pos e, if_pos e.symm]
    · rw [if_neg e, if_neg e, if_neg (fun z => e z.symm)]
section SU
variable {Mn : Nat} {M t : Int32} {bi : List Int32} {l11 : List Int64} {now : List Int32}
theorem nb_n (h : VC Mn M t bi l11 now) {g : Nat} (hg : g < 12) : bi.getD g 0 = nI (nb bi g) ∧ nb bi g ≤ 20 := by
  have b := h.2.2.2.2.1 g hg
  unfold nb
  exact ⟨nJ_of (by omega), by omega⟩
theorem LN_le (h : VC Mn M t bi l11 now) : ∀ L : List Nat, (∀ u, u ∈ L → u < 12) → LN bi L ≤ 20 * L.length
  | [], _ => Nat.le_refl _
  | g :: L, hL => by
    have := LN_le h L (fun u hu => hL u (List.mem_cons_of_mem _ hu))
    have := (nb_n h (hL g (List.mem_cons_self ..))).2
    show nb bi g + LN bi L ≤ 20 * (L.length + 1)
    omega
/-- the one with most, the first of like ones -/
noncomputable def top (n : Nat) (X : Nat → Int) (c : Nat) : Prop := c < n ∧ (∀ q, q < n → X q ≤ X c) ∧ ∀ q, q < c → X q < X c
theorem top_1 {n : Nat} {X : Nat → Int} {a b : Nat} (ha : top n X a) (hb : top n X b) : a = b := by
  obtain ⟨a1, a2, a3⟩ := ha
  obtain ⟨b1, b2, b3⟩ := hb
  by_cases c : a < b
  · have := b3 a c
    have := a2 b b1
    omega
  · by_cases d : b < a
    · have := a3 b d
      have := b2 a a1
      omega
    · omega
theorem top_s {X : Nat → Int} {i c : Nat} (h : top i X c) : (X c < X i → top (i + 1) X i) ∧ (¬ X c < X i → top (i + 1) X c) := by
  obtain ⟨h1, h2, h3⟩ := h
  refine ⟨fun l => ⟨by omega, fun q hq => ?_, fun q hq => ?_⟩, fun l => ⟨by omega, fun q hq => ?_, h3⟩⟩
  · by_cases e : q = i
    · rw [e]; exact Int.le_refl _
    · have := h2 q (by omega); omega
  · have := h2 q hq; omega
  · by_cases e : q = i
    · rw [e]; omega
    · exact h2 q (by omega)
theorem top_96 {n : Nat} (hn : 2 ≤ n ∧ n ≤ 6) {M : Int32} (hM : M.toInt = (n : Int)) {l : List Int32} : ∃ c, km_mostVotes_67_96 M l = nI c ∧ top n (fun q => (l.getD q 0).toInt) c := by
  have loop : ∀ (m i c : Nat), i + m = n → top i (fun q => (l.getD q 0).toInt) c → ∃ e, km_mostVotes_67_96_4 l m (nI c) (nI i) = nI e ∧ top n (fun q => (l.getD q 0).toInt) e := by
    intro m
    induction m with
    | zero =>
      intro i c hi ht
      rw [show i = n by omega] at ht
      exact ⟨c, rfl, ht⟩
    | succ m ih =>
      intro i c hi ht
      have c1 := ht.1
      rw [e_km_mostVotes_67_96_4, nJ_ix (n := c) (by omega), nJ_ix (n := i) (by omega), nJ_1 (n := i) (by omega)]
      by_cases l' : (l.getD c 0).toInt < (l.getD i 0).toInt
      · rw [if_pos l']
        exact ih (i + 1) i (by omega) ((top_s ht).1 l')
      · rw [if_neg l']
        exact ih (i + 1) c (by omega) ((top_s ht).2 l')
  unfold km_mostVotes_67_96
  rw [show (M.toInt - 1).toNat = n - 1 by omega]
  exact loop (n - 1) 1 0 (by omega) ⟨by omega, fun q hq => by rw [show q = 0 by omega]; exact Int.le_refl _, fun q hq => by omega⟩
theorem top_31 {l : List Int32} (hl : l.length = 6) : ∃ c, kc_most_31 l = nI c ∧ top 6 (fun q => (l.getD q 0).toInt) c := by
  have loop : ∀ (m i c : Nat), i + m = 6 → top i (fun q => (l.getD q 0).toInt) c → ∃ e, kc_most_31_4 l m (nI c) (nI i) = nI e ∧ top 6 (fun q => (l.getD q 0).toInt) e := by
    intro m
    induction m with
    | zero =>
      intro i c hi ht
      rw [show i = 6 by omega] at ht
      exact ⟨c, rfl, ht⟩
    | succ m ih =>
      intro i c hi ht
      have c1 := ht.1
      rw [e_kc_most_31_4, nJ_ix (n := c) (by omega), nJ_ix (n := i) (by omega), nJ_1 (n := i) (by omega)]
      by_cases l' : (l.getD c 0).toInt < (l.getD i 0).toInt
      · rw [if_pos l']
        exact ih (i + 1) i (by omega) ((top_s ht).1 l')
      · rw [if_neg l']
        exact ih (i + 1) c (by omega) ((top_s ht).2 l')
  unfold kc_most_31
  rw [hl, show ((Int32.ofNat 6).toInt - 1).toNat = 5 from rfl]
  exact loop 5 1 0 (by omega) ⟨by omega, fun q hq => by rw [show q = 0 by omega]; exact Int.le_refl _, fun q hq => by omega⟩
theorem top_c {n : Nat} {X Y : Nat → Int} {c : Nat} (h : ∀ q, q < n → X q = Y q) (ht : top n X c) : top n Y c := by
  obtain ⟨h1, h2, h3⟩ := ht
  exact ⟨h1, fun q hq => by rw [← h q hq, ← h c h1]; exact h2 q hq, fun q hq => by rw [← h q (by omega), ← h c h1]; exact h3 q hq⟩
/-- one that is top in some way is so with all of them -/
theorem top_all {n i : Nat} {V A : Nat → Int} {S : Int} (hA : ∀ q, q < n → 0 ≤ A q ∧ A q ≤ S) (h : top n (fun q => V q + A q) i) : top n (fun q => V q + (if q = i then S else 0)) i := by
  obtain ⟨h1, h2, h3⟩ := h
  refine ⟨h1, fun q hq => ?_, fun q hq => ?_⟩
  · show V q + (if q = i then S else 0) ≤ V i + (if i = i then S else 0)
    rw [if_pos rfl]
    by_cases e : q = i
    · rw [if_pos e, e]; exact Int.le_refl _
    · rw [if_neg e]
      have := h2 q hq
      have := hA q hq
      have := hA i h1
      dsimp only at *
      omega
  · show V q + (if q = i then S else 0) < V i + (if i = i then S else 0)
    rw [if_pos rfl, if_neg (by omega)]
    have := h3 q hq
    have := hA q (by omega)
    have := hA i h1
    dsimp only at *
    omega
/-- what the undecided take from the first ones, on the class's side -/
theorem pw_8 (h : VC Mn M t bi l11 now) {s : Nat} : ∀ (m g : Nat) (l c : List Int32), g + m = 12 → l.length = 6 → (∀ q, q < 6 → l.getD q 0 = c.getD q 0 + sg g (fun g => if s.testBit g = true ∧ km_highestOf M now (nI g) (nI (2 ^ Mn - 1)) = nI q then -(bi.getD g 0) else 0)) → (kv_possibleWinners_8 M bi l11 (nI s) m (nI (LN bi (wl g s))) (nI g) l).1 = nI (LN bi (wl 12 s)) ∧ (kv_possibleWinners_8 M bi l11 (nI s) m (nI (LN bi (wl g s))) (nI g) l).2.length = 6 ∧ ∀ q, q < 6 → (kv_possibleWinners_8 M bi l11 (nI s) m (nI (LN bi (wl g s))) (nI g) l).2.getD q 0 = c.getD q 0 + sg 12 (fun g => if s.testBit g = true ∧ km_highestOf M now (nI g) (nI (2 ^ Mn - 1)) = nI q then -(bi.getD g 0) else 0) := by
  have hM := h.2.1
  obtain ⟨eA, -, -⟩ := all_b h
  intro m
  induction m with
  | zero =>
    intro g l c hg hl he
    rw [e0_kv_possibleWinners_8]
    rw [show g = 12 by omega] at he ⊢
    exact ⟨rfl, hl, he⟩
  | succ m ih =>
    intro g l c hg hl he
    have q : wl (g + 1) s = if s.testBit g = true then wl g s ++ [g] else wl g s := rfl
    rw [e_kv_possibleWinners_8, nJ_1 (n := g) (by omega), nJ_ix (n := g) (by omega), eA, fav_eq h (show g < 12 by omega)]
    by_cases b : s.testBit g = true
    · obtain ⟨k, k1, k2, -⟩ := hi_in h (show g < 12 by omega) (all_ne h)
      rw [if_neg (vt1 (by omega) ((b32_n (by omega)).trans b)), k2, if_neg (nI_m1 (by omega)), nJ_ix (n := k) (by omega)]
      have i2 := ih (g + 1) (l.set k (l.getD k 0 - bi.getD g 0)) c (by omega) (by rw [List.length_set]; exact hl) (fun q hq => by
        show _ = c.getD q 0 + (sg g (fun g => if s.testBit g = true ∧ km_highestOf M now (nI g) (nI (2 ^ Mn - 1)) = nI q then -(bi.getD g 0) else 0) + (if s.testBit g = true ∧ km_highestOf M now (nI g) (nI (2 ^ Mn - 1)) = nI q then -(bi.getD g 0) else 0))
        rw [← Int32.add_assoc, ← he q hq, gd_set (by omega), k2]
        by_cases e : q = k
        · rw [if_pos e, if_pos ⟨b, by rw [e]⟩, e, Int32.sub_eq_add_neg]
        · rw [if_neg e, if_neg (fun z => e (nJ_inj (by omega) (by omega) z.2).symm), Int32.add_zero])
      rw [q, if_pos b, LN_app, ← nI_plus, ← (nb_n h (show g < 12 by omega)).1] at i2
      exact i2
    · rw [if_pos (vt0 (by omega) ((b32_n (by omega)).trans (eq_false_of_ne_true b)))]
      have i2 := ih (g + 1) l c (by omega) hl (fun q hq => by
        rw [he q hq]
        exact congrArg _ (sg_s (f := fun g => if s.testBit g = true ∧ km_highestOf M now (nI g) (nI (2 ^ Mn - 1)) = nI q then -(bi.getD g 0) else 0) (if_neg (fun z => b z.1))).symm)
      rw [q, if_neg b] at i2
      exact i2
theorem pw_V (h : VC Mn M t bi l11 now) {s : Nat} (hs : ∀ g, g < 32 → s.testBit g = true → b32 t g = true) {q : Nat} : vF t bi (fun g => km_highestOf M now (nI g) (nI (2 ^ Mn - 1))) (fun _ => false) q + sg 12 (fun g => if s.testBit g = true ∧ km_highestOf M now (nI g) (nI (2 ^ Mn - 1)) = nI q then -(bi.getD g 0) else 0) = vF t bi (fun g => km_highestOf M now (nI g) (nI (2 ^ Mn - 1))) (fun g => b32 (nI s) g) q := by
  unfold vF
  rw [← sg_add]
  refine sg_congr 12 (fun g hg => ?_)
  show (if b32 t g = true ∧ false = false ∧ km_highestOf M now (nI g) (nI (2 ^ Mn - 1)) = nI q then bi.getD g 0 else 0) + (if s.testBit g = true ∧ km_highestOf M now (nI g) (nI (2 ^ Mn - 1)) = nI q then -(bi.getD g 0) else 0) = (if b32 t g = true ∧ b32 (nI s) g = false ∧ km_highestOf M now (nI g) (nI (2 ^ Mn - 1)) = nI q then bi.getD g 0 else 0)
  rw [b32_n (show g < 32 by omega)]
  by_cases e : km_highestOf M now (nI g) (nI (2 ^ Mn - 1)) = nI q
  · by_cases b : s.testBit g = true
    · rw [if_pos ⟨hs g (by omega) b, rfl, e⟩, if_pos ⟨b, e⟩, if_neg (fun z : b32 t g = true ∧ s.testBit g = false ∧ km_highestOf M now (nI g) (nI (2 ^ Mn - 1)) = nI q => by rw [b] at z; cases z.2.1), Int32.add_right_neg]
    · rw [if_neg (fun z : s.testBit g = true ∧ km_highestOf M now (nI g) (nI (2 ^ Mn - 1)) = nI q => b z.1), eq_false_of_ne_true b, Int32.add_zero]
  · rw [if_neg (fun z : b32 t g = true ∧ false = false ∧ km_highestOf M now (nI g) (nI (2 ^ Mn - 1)) = nI q => e z.2.2), if_neg (fun z : s.testBit g = true ∧ km_highestOf M now (nI g) (nI (2 ^ Mn - 1)) = nI q => e z.2), if_neg (fun z : b32 t g = true ∧ s.testBit g = false ∧ km_highestOf M now (nI g) (nI (2 ^ Mn - 1)) = nI q => e z.2.2), Int32.add_zero]
/-- the class's winners -/
theorem pw_90 (h2 : 2 ≤ Mn ∧ Mn ≤ 6) {A : List Int32} (hA : A.length = 6) {S : Nat} (hS : S ≤ 1000) (hV : ∀ q, q < 6 → 0 ≤ (A.getD q 0).toInt ∧ (A.getD q 0).toInt ≤ 240) (h0 : ∀ q, Mn ≤ q → q < 6 → A.getD q 0 = 0) : ∀ (m i : Nat) (y : Int32), i + m = Mn → ∀ k, k < 32 → (b32 (kv_possibleWinners_90 (nI S) m y (nI i) A).1 k = true ↔ b32 y k = true ∨ (i ≤ k ∧ k < Mn ∧ top Mn (fun q => (A.getD q 0).toInt + (if q = k then (S : Int) else 0)) k)) := by
  intro m
  induction m with
  | zero =>
    intro i y hi k hk
    rw [e0_kv_possibleWinners_90]
    exact ⟨fun z => Or.inl z, fun z => by
      rcases z with z | ⟨z1, z2, -⟩
      · exact z
      · omega⟩
  | succ m ih =>
    intro i y hi k hk
    have iM : i < Mn := by omega
    have back : (A.set i (A.getD i 0 + nI S)).set i ((A.set i (A.getD i 0 + nI S)).getD i 0 - nI S) = A := by
      rw [gd_set (by omega), if_pos rfl, List.set_set, Int32.add_sub_cancel]
      exact set_own
    rw [e_kv_possibleWinners_90, nJ_1 (n := i) (by omega), nJ_ix (n := i) (by omega), back]
    have v : ∀ q, q < 6 → ((A.set i (A.getD i 0 + nI S)).getD q 0).toInt = (A.getD q 0).toInt + (if q = i then (S : Int) else 0) := fun q hq => by
      rw [gd_set (by omega)]
      by_cases e : q = i
      · have b := hV i (by omega)
        have eS := nI_toInt (n := S) (by omega)
        rw [if_pos e, if_pos e, an_add32 (by omega) (by omega), eS, e]
      · rw [if_neg e, if_neg e, Int.add_zero]
    obtain ⟨c, c1, c2⟩ := top_31 (l := A.set i (A.getD i 0 + nI S)) (by rw [List.length_set]; exact hA)
    have c3 := top_c (Y := fun q => (A.getD q 0).toInt + (if q = i then (S : Int) else 0)) v c2
    have iff : kc_most_31 (A.set i (A.getD i 0 + nI S)) = nI i ↔ top Mn (fun q => (A.getD q 0).toInt + (if q = i then (S : Int) else 0)) i := by
      constructor
      · intro z
        have e := nJ_inj (m := c) (n := i) (by have := c2.1; omega) (by omega) (c1.symm.trans z)
        subst e
        exact ⟨iM, fun q hq => c3.2.1 q (by omega), c3.2.2⟩
      · intro z
        have t6 : top 6 (fun q => (A.getD q 0).toInt + (if q = i then (S : Int) else 0)) i := by
          refine ⟨by omega, fun q hq => ?_, z.2.2⟩
          by_cases e : q < Mn
          · exact z.2.1 q e
          · show (A.getD q 0).toInt + (if q = i then (S : Int) else 0) ≤ (A.getD i 0).toInt + (if i = i then (S : Int) else 0)
            have e0 : (0 : Int32).toInt = 0 := rfl
            have b := hV i (by omega)
            rw [h0 q (by omega) hq, if_neg (by omega), if_pos rfl, e0]
            omega
        rw [c1, top_1 c3 t6]
    by_cases d : kc_most_31 (A.set i (A.getD i 0 + nI S)) = nI i
    · rw [if_pos d, ih (i + 1) _ (by omega) k hk, b32_or, b32_bitn (by omega) hk, Bool.or_eq_true, decide_eq_true_eq]
      constructor
      · rintro ((z | z) | ⟨z1, z2, z3⟩)
        · exact Or.inl z
        · subst z
          exact Or.inr ⟨Nat.le_refl _, iM, iff.mp d⟩
        · exact Or.inr ⟨by omega, z2, z3⟩
      · rintro (z | ⟨z1, z2, z3⟩)
        · exact Or.inl (Or.inl z)
        · by_cases e : k = i
          · exact Or.inl (Or.inr e)
          · exact Or.inr ⟨by omega, z2, z3⟩
    · rw [if_neg d, ih (i + 1) _ (by omega) k hk]
      constructor
      · rintro (z | ⟨z1, z2, z3⟩)
        · exact Or.inl z
        · exact Or.inr ⟨by omega, z2, z3⟩
      · rintro (z | ⟨z1, z2, z3⟩)
        · exact Or.inl z
        · by_cases e : k = i
          · subst e
            exact absurd (iff.mpr z3) d
          · exact Or.inr ⟨by omega, z2, z3⟩
/-! the reference: way by way -/
theorem su_47 (h : VC Mn M t bi l11 now) {s : Nat} (hp : pop 12 s ≤ 6) : ∀ (m g : Nat) (l : List Int32), g + m = 12 → l.length = 12 → (∀ k, k < (wl g s).length → l.getD k 0 = nI ((wl g s).getD k 0)) → (km_sure_47 M (nI s) m (nI (wl g s).length) (nI (Mn ^ (wl g s).length)) (nI g) l).1 = nI (wl 12 s).length ∧ (km_sure_47 M (nI s) m (nI (wl g s).length) (nI (Mn ^ (wl g s).length)) (nI g) l).2.1 = nI (Mn ^ (wl 12 s).length) ∧ ∀ k, k < (wl 12 s).length → (km_sure_47 M (nI s) m (nI (wl g s).length) (nI (Mn ^ (wl g s).length)) (nI g) l).2.2.getD k 0 = nI ((wl 12 s).getD k 0) := by
  intro m
  induction m with
  | zero =>
    intro g l hg hl he
    rw [e0_km_sure_47]
    rw [show g = 12 by omega] at he ⊢
    exact ⟨rfl, rfl, he⟩
  | succ m ih =>
    intro g l hg hl he
    have q : wl (g + 1) s = if s.testBit g = true then wl g s ++ [g] else wl g s := rfl
    have lg := wl_len s g
    have lp := pop_12 g s
    rw [e_km_sure_47, nJ_1 (n := g) (by omega)]
    by_cases b : s.testBit g = true
    · rw [if_neg (vh1 (by omega) ((b32_n (by omega)).trans b)), nJ_ix (n := (wl g s).length) (by omega)]
      have i2 := ih (g + 1) (l.set (wl g s).length (nI g)) (by omega) (by rw [List.length_set]; exact hl) (fun k hk => by
        rw [q, if_pos b] at hk ⊢
        rw [List.length_append] at hk
        have hk : k < (wl g s).length + 1 := hk
        rw [gd_set (by omega)]
        by_cases e : k = (wl g s).length
        · rw [if_pos e, e, List.getD_eq_getElem?_getD, List.getElem?_append_right (Nat.le_refl _), Nat.sub_self]
          rfl
        · rw [if_neg e, List.getD_eq_getElem?_getD (l := wl g s ++ [g]), List.getElem?_append_left (by omega), ← List.getD_eq_getElem?_getD]
          exact he k (by omega))
      have e1 : (wl (g + 1) s).length = (wl g s).length + 1 := by
        rw [q, if_pos b, List.length_append]
        rfl
      rw [e1, Nat.pow_succ, ← nI_mul, ← nI_plus, ← nJ_of h.1] at i2
      exact i2
    · rw [if_pos (vh0 (by omega) ((b32_n (by omega)).trans (eq_false_of_ne_true b)))]
      have i2 := ih (g + 1) l (by omega) hl (by rw [q, if_neg b]; exact he)
      rw [show (wl (g + 1) s) = wl g s by rw [q, if_neg b]] at i2
      exact i2
theorem su_118 {V : List Int32} (h2 : Mn ≤ 6) : ∀ (m i : Nat) (l : List Int32), i + m = Mn → l.length = 6 → (∀ q, q < i → l.getD q 0 = V.getD q 0) → (km_sure_118 V m (nI i) l).length = 6 ∧ ∀ q, q < Mn → (km_sure_118 V m (nI i) l).getD q 0 = V.getD q 0 := by
  intro m
  induction m with
  | zero =>
    intro i l hi hl he
    rw [e0_km_sure_118]
    rw [show i = Mn by omega] at he
    exact ⟨hl, he⟩
  | succ m ih =>
    intro i l hi hl he
    rw [e_km_sure_118, nJ_1 (n := i) (by omega), nJ_ix (n := i) (by omega)]
    refine ih (i + 1) _ (by omega) (by rw [List.length_set]; exact hl) (fun q hq => ?_)
    rw [gd_set (by omega)]
    by_cases e : q = i
    · rw [if_pos e, e]
    · rw [if_neg e]
      exact he q (by omega)
theorem su_154 (h : VC Mn M t bi l11 now) {who : List Int32} {W : List Nat} (hw : ∀ k, k < W.length → who.getD k 0 = nI (W.getD k 0)) (h12 : ∀ u, u ∈ W → u < 12) : ∀ (m k w : Nat) (l : List Int32), k + m = W.length → W.length ≤ 6 → w < 100000 → l.length = 6 → (km_sure_154 M now who m (nI w) (nI k) l).length = 6 ∧ ∀ q, q < Mn → (km_sure_154 M now who m (nI w) (nI k) l).getD q 0 = l.getD q 0 + nI (aN bi Mn (W.drop k) w q) := by
  have hM := h.2.1
  intro m
  induction m with
  | zero =>
    intro k w l hk _ _ hl
    rw [e0_km_sure_154, List.drop_of_length_le (by omega)]
    refine ⟨hl, fun q hq => ?_⟩
    show _ = _ + (0 : Int32)
    rw [Int32.add_zero]
  | succ m ih =>
    intro k w l hk h6 hw1 hl
    have kl : k < W.length := by omega
    have gk : W.getD k 0 < 12 := by
      rw [List.getD_eq_getElem?_getD, List.getElem?_eq_getElem kl]
      exact h12 _ (List.getElem_mem kl)
    have dk : W.drop k = W.getD k 0 :: W.drop (k + 1) := by
      rw [List.drop_eq_getElem_cons kl, List.getD_eq_getElem?_getD, List.getElem?_eq_getElem kl]
      rfl
    have eM : M = nI Mn := nJ_of h.1
    have ml : w % Mn < Mn := Nat.mod_lt _ (by omega)
    have dm := Nat.div_add_mod w Mn
    have rm : nI w - nI w / M * M = nI (w % Mn) := by
      rw [eM, nI_div (by omega) (by omega), nI_mul, nI_less (by rw [Nat.mul_comm]; omega)]
      rw [Nat.mul_comm]
      congr 1
      omega
    rw [e_km_sure_154, rm, nJ_ix (n := w % Mn) (by omega), nJ_ix (n := k) (by omega), hw k kl, nJ_ad (a := 12) (k := 12) (n := W.getD k 0) rfl (by omega), ← h.2.2.2.1 _ gk, nJ_1 (n := k) (by omega), (nb_n h gk).1]
    have ed : nI w / M = nI (w / Mn) := by rw [eM, nI_div (by omega) (by omega)]
    rw [ed]
    obtain ⟨q1, q2⟩ := ih (k + 1) (w / Mn) (l.set (w % Mn) (l.getD (w % Mn) 0 + nI (nb bi (W.getD k 0)))) (by omega) h6 (by have := Nat.div_le_self w Mn; omega) (by rw [List.length_set]; exact hl)
    refine ⟨q1, fun q hq => (q2 q hq).trans ?_⟩
    rw [gd_set (by omega), dk]
    show _ = l.getD q 0 + nI ((if w % Mn = q then nb bi (W.getD k 0) else 0) + aN bi Mn (W.drop (k + 1)) (w / Mn) q)
    by_cases e : q = w % Mn
    · rw [if_pos e, if_pos e.symm, ← nI_plus, ← Int32.add_assoc, e]
    · rw [if_neg e, if_neg (fun z => e z.symm), Nat.zero_add]
theorem su_108 (h : VC Mn M t bi l11 now) {who V : List Int32} {W : List Nat} (hw : ∀ k, k < W.length → who.getD k 0 = nI (W.getD k 0)) (h12 : ∀ u, u ∈ W → u < 12) (h6 : W.length ≤ 6) (hV : ∀ q, q < Mn → 0 ≤ (V.getD q 0).toInt ∧ (V.getD q 0).toInt ≤ 240) {ways : Nat} (hways : ways < 100000) : ∀ (m w : Nat) (y : Int32) (l : List Int32), w + m = ways → l.length = 6 → ∀ k, k < 32 → (b32 (km_sure_108 M now V who (nI W.length) m y (nI w) l).1 k = true ↔ b32 y k = true ∨ ∃ w', w ≤ w' ∧ w' < ways ∧ top Mn (fun q => (V.getD q 0).toInt + (aN bi Mn W w' q : Int)) k) := by
  have hM := h.2.1
  intro m
  induction m with
  | zero =>
    intro w y l hm _ k hk
    rw [e0_km_sure_108]
    exact ⟨fun z => Or.inl z, fun z => by
      rcases z with z | ⟨w', z1, z2, -⟩
      · exact z
      · omega⟩
  | succ m ih =>
    intro w y l hm hl k hk
    obtain ⟨a1, a2⟩ := su_118 (V := V) hM.2 Mn 0 l (by omega) hl (fun q hq => by omega)
    obtain ⟨b1, b2⟩ := su_154 h hw h12 W.length 0 w _ (by omega) h6 (by omega) a1
    rw [List.drop_zero] at b2
    rw [e_km_sure_108, vc_tn h, nJ_ix (n := W.length) (by omega), nJ_1 (n := w) (by omega)]
    have b1 : (km_sure_154 M now who W.length (nI w) 0 (km_sure_118 V Mn 0 l)).length = 6 := b1
    have b2 : ∀ q, q < Mn → (km_sure_154 M now who W.length (nI w) 0 (km_sure_118 V Mn 0 l)).getD q 0 = V.getD q 0 + nI (aN bi Mn W w q) := fun q hq => (b2 q hq).trans (by rw [a2 q hq])
    generalize km_sure_154 M now who W.length (nI w) 0 (km_sure_118 V Mn 0 l) = R at b1 b2
    obtain ⟨c, c1, c2⟩ := top_96 hM h.1 (l := R)
    have v : ∀ q, q < Mn → (R.getD q 0).toInt = (V.getD q 0).toInt + (aN bi Mn W w q : Int) := fun q hq => by
      have b := hV q hq
      have l1 := aN_le (bi := bi) (n := Mn) (q := q) W w
      have l2 := LN_le h W h12
      have e := nI_toInt (n := aN bi Mn W w q) (by omega)
      rw [b2 q hq, an_add32 (by omega) (by omega), e]
    have c3 := top_c v c2
    rw [c1, ih (w + 1) _ R (by omega) b1 k hk, b32_or, b32_bitn (by have := c2.1; omega) hk, Bool.or_eq_true, decide_eq_true_eq]
    constructor
    · rintro ((z | z) | ⟨w', z1, z2, z3⟩)
      · exact Or.inl z
      · subst z
        exact Or.inr ⟨w, Nat.le_refl _, by omega, c3⟩
      · exact Or.inr ⟨w', by omega, z2, z3⟩
    · rintro (z | ⟨w', z1, z2, z3⟩)
      · exact Or.inl (Or.inl z)
      · by_cases e : w' = w
        · subst e
          exact Or.inl (Or.inr (top_1 z3 c3))
        · exact Or.inr ⟨w', by omega, z2, z3⟩
theorem sure_both (h : VC Mn M t bi l11 now) {s : Nat} (hs : ∀ g, g < 32 → s.testBit g = true → b32 t g = true) (hp : pop 12 s ≤ 6) {a31 a35 a87 a95 a96 : List Int32} (h31 : a31.length = 6) (h35 : a35.length = 384) (h87 : a87.length = 6) (h95 : a95.length = 12) (h96 : a96.length = 6) : (kv_possibleWinners M t bi a31 a35 l11 (nI s)).1 = (km_sure_108 M now (km_laysFirsts M now a87 (km_allMeasures M) (nI s)) (km_sure_47 M (nI s) 12 0 1 0 a95).2.2 (km_sure_47 M (nI s) 12 0 1 0 a95).1 (km_sure_47 M (nI s) 12 0 1 0 a95).2.1.toInt.toNat 0 0 a96).1 ∧ ∀ k, Mn ≤ k → k < 32 → b32 (kv_possibleWinners M t bi a31 a35 l11 (nI s)).1 k = false := by
  have hM := h.2.1
  obtain ⟨-, eB, -⟩ := all_b h
  obtain ⟨c1, -, c2⟩ := counts_c h h31 h35
  obtain ⟨d1, d2⟩ := lays_m h h87 (all_ne h) (w := nI s)
  obtain ⟨p1, p2, p3⟩ := pw_8 h (s := s) 12 0 (kv_countFirsts M t bi a31 a35 l11).1 (kv_countFirsts M t bi a31 a35 l11).1 rfl c1 (fun q hq => by
    show _ = _ + (0 : Int32)
    rw [Int32.add_zero])
  have p1 : (kv_possibleWinners_8 M bi l11 (nI s) 12 0 0 (kv_countFirsts M t bi a31 a35 l11).1).1 = nI (LN bi (wl 12 s)) := p1
  have p2 : (kv_possibleWinners_8 M bi l11 (nI s) 12 0 0 (kv_countFirsts M t bi a31 a35 l11).1).2.length = 6 := p2
  have p4 : ∀ q, q < 6 → (kv_possibleWinners_8 M bi l11 (nI s) 12 0 0 (kv_countFirsts M t bi a31 a35 l11).1).2.getD q 0 = vF t bi (fun g => km_highestOf M now (nI g) (nI (2 ^ Mn - 1))) (fun g => b32 (nI s) g) q := fun q hq => (p3 q hq).trans (by rw [c2 q hq]; exact pw_V h hs)
  have wL := wl_len s 12
  have w12 : ∀ u, u ∈ wl 12 s → u < 12 := fun u hu => wl_mem 12 hu
  have lS := LN_le h (wl 12 s) w12
  obtain ⟨s1, s2, s3⟩ := su_47 h hp 12 0 a95 rfl h95 (fun k hk => by cases hk)
  have s1 : (km_sure_47 M (nI s) 12 0 1 0 a95).1 = nI (wl 12 s).length := s1
  have s2 : (km_sure_47 M (nI s) 12 0 1 0 a95).2.1 = nI (Mn ^ (wl 12 s).length) := s2
  have s3 : ∀ k, k < (wl 12 s).length → (km_sure_47 M (nI s) 12 0 1 0 a95).2.2.getD k 0 = nI ((wl 12 s).getD k 0) := s3
  have ww : Mn ^ (wl 12 s).length < 100000 := by
    have a1 : Mn ^ (wl 12 s).length ≤ 6 ^ (wl 12 s).length := Nat.pow_le_pow_left hM.2 _
    have a2 : 6 ^ (wl 12 s).length ≤ 6 ^ 6 := Nat.pow_le_pow_right (by omega) (by omega)
    have a3 : 6 ^ 6 < 100000 := by decide
    omega
  have bits : ∀ k, k < 32 → (b32 (kv_possibleWinners M t bi a31 a35 l11 (nI s)).1 k = true ↔ k < Mn ∧ top Mn (fun q => ((kv_possibleWinners_8 M bi l11 (nI s) 12 0 0 (kv_countFirsts M t bi a31 a35 l11).1).2.getD q 0).toInt + (if q = k then (LN bi (wl 12 s) : Int) else 0)) k) := fun k hk => by
    have q := pw_90 (S := LN bi (wl 12 s)) hM p2 (by omega) (fun q hq => by rw [p4 q hq]; exact vF_bd h) (fun q z1 z2 => (p4 q z2).trans (vF_0 h z1 z2)) Mn 0 0 (by omega) k hk
    unfold kv_possibleWinners
    rw [vc_tn h, p1]
    refine q.trans ⟨fun z => ?_, fun z => Or.inr ⟨by omega, z⟩⟩
    rcases z with z | ⟨-, z⟩
    · rw [b32_0] at z; cases z
    · exact z
  refine ⟨b32_ext fun k hk => ?_, fun k h1 h2 => ?_⟩
  · rw [s1, s2, eB, nJ_ix (by omega), Bool.eq_iff_iff, bits k hk]
    have q := su_108 h (V := km_laysFirsts M now a87 (nI (2 ^ Mn - 1)) (nI s)) s3 w12 (by omega) (fun q hq => by rw [d2 q (by omega)]; exact vF_bd h) ww (Mn ^ (wl 12 s).length) 0 0 a96 (by omega) h96 k hk
    refine Iff.trans ?_ q.symm
    have same : ∀ q, q < Mn → ((kv_possibleWinners_8 M bi l11 (nI s) 12 0 0 (kv_countFirsts M t bi a31 a35 l11).1).2.getD q 0).toInt = ((km_laysFirsts M now a87 (nI (2 ^ Mn - 1)) (nI s)).getD q 0).toInt := fun q hq => by rw [p4 q (by omega), d2 q (by omega)]
    constructor
    · rintro ⟨z1, z2⟩
      refine Or.inr ⟨rep Mn k (wl 12 s).length, by omega, rep_lt z1 _, top_c (fun q hq => ?_) z2⟩
      show _ = ((km_laysFirsts M now a87 (nI (2 ^ Mn - 1)) (nI s)).getD q 0).toInt + (aN bi Mn (wl 12 s) (rep Mn k (wl 12 s).length) q : Int)
      rw [rep_a z1, same q hq]
      by_cases e : q = k
      · rw [if_pos e, if_pos e]
      · rw [if_neg e, if_neg e]
        rfl
    · rintro (z | ⟨w', -, -, z⟩)
      · rw [b32_0] at z; cases z
      · refine ⟨z.1, ?_⟩
        have r := top_all (V := fun q => ((km_laysFirsts M now a87 (nI (2 ^ Mn - 1)) (nI s)).getD q 0).toInt) (A := fun q => (aN bi Mn (wl 12 s) w' q : Int)) (S := (LN bi (wl 12 s) : Int)) (fun q _ => ⟨by omega, by have := aN_le (bi := bi) (n := Mn) (q := q) (wl 12 s) w'; omega⟩) z
        exact top_c (fun q hq => by rw [same q hq]) r
  · cases e : b32 (kv_possibleWinners M t bi a31 a35 l11 (nI s)).1 k with
    | false => rfl
    | true => have := ((bits k h2).mp e).1; omega
theorem sure_pure (h : VC Mn M t bi l11 now) {tm : Nat} (ht : t = nI tm) (h4 : tm < 4096) {a31 a35 a87 a95 a96 : List Int32} (h31 : a31.length = 6) (h35 : a35.length = 384) (h87 : a87.length = 6) (h95 : a95.length = 12) (h96 : a96.length = 6) {x y : Int32} : (kc_sure M t bi a31 a35 l11 x y).1 = (km_sure M now a87 a95 a96 x y).1 := by
  have hM := h.2.1
  unfold kc_sure km_sure
  rw [within_in, ← h.2.2.1]
  by_cases sub : x &&& (t ^^^ (-1)) = 0
  · obtain ⟨s, s1, rfl, s3⟩ := sub_12 ht h4 sub
    have es := nI_toInt (n := s) (by omega)
    have p12 := pop_12 12 s
    have ep := nI_toInt (n := pop 12 s) (by omega)
    rw [if_pos sub, if_pos sub, if_neg (show ¬ (nI s).toInt < 0 by omega), bc_n s1, bits_n]
    by_cases c : 6 < (nI (pop 12 s)).toInt
    · rw [if_pos c, if_pos c]
      split <;> rfl
    · rw [if_neg c, if_neg c]
      by_cases d : km_in y 0 1 = 0
      · rw [if_pos d, if_pos d]
      · rw [if_neg d, if_neg d]
        obtain ⟨q1, q2⟩ := sure_both h s3 (by omega) h31 h35 h87 h95 h96
        obtain ⟨p, pl, pe⟩ := small64 (x := (kv_possibleWinners M t bi a31 a35 l11 (nI s)).1) (fun k k1 k2 => q2 k (by omega) k2)
        rw [← q1, pe, bc_n (by omega), bits_n]
        by_cases e : y = 1
        · rw [if_pos e, if_pos e]
        · rw [if_neg e, if_neg e]
          by_cases f : nI (pop 12 p) = 1
          · rw [if_pos f, if_pos f]
          · rw [if_neg f, if_neg f]
  · rw [if_neg sub, if_neg sub]
    split
    · rfl
    · split <;> rfl
end SU
section ANSU
variable {as : List Int32} {hp hp1 hp2 : sm_H} {r1 r2 : Int32}
theorem an_sure (hl : as.length = 2) (hI : ivH IV hp) (hR : R123 hp) (m1 : EM 400 120 (.ref 0 :: as.map Value.int) hp (some (.int r1)) hp1) (hI1 : ivH IV hp1) (m2 : EM 400 235 (.ref 67 :: as.map Value.int) hp1 (some (.int r2)) hp2) : r1 = r2 := by
  obtain ⟨x, y, rfl⟩ := ln2 hl
  have b := iv_fb (k := 3) (j := 1) (b := (0, 4095)) hI rfl
  have b1 := b.1
  have b2 := b.2
  dsimp only at b1 b2
  obtain ⟨e1, h1⟩ := u_kc_sure hI m1
  have w : exA hp1 68 = exA hp 68 := by rw [h1]; rfl
  have w3 : exF hp1 67 3 = exF hp 3 0 := by rw [hR.1.1.1.1, h1]; rfl
  obtain ⟨e2, -⟩ := u_km_sure hI1 m2
  rw [e1, e2, w, w3]
  exact sure_pure (vc_of hI hR.1.1 hR.2) (tm := (exF hp 3 1).toInt.toNat) (nJ_of (by omega)) (by omega) (iv_len (k := 31) hI rfl (by decide)) (iv_len (k := 35) hI rfl (by decide)) (iv_len (k := 87) hI1 rfl (by decide)) (iv_len (k := 95) hI1 rfl (by decide)) (iv_len (k := 96) hI1 rfl (by decide))
end ANSU
