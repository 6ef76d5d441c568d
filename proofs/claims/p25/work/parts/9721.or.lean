/-! orders: rows one by one on one side, ways by sets on the other -/
noncomputable def rws (n : Nat) : Nat → List Nat → List (List Nat)
  | 0, _ => []
  | k + 1, p => p :: (match nnx n p with
    | none => []
    | some q => rws n k q)
noncomputable def flat {α : Type} : Nat → (Nat → List α) → List α
  | 0, _ => []
  | j + 1, f => flat j f ++ f j
/-- all rows that begin so, by their letters -/
noncomputable def ext (n : Nat) : Nat → Nat → List Nat → List (List Nat)
  | 0, _, p => [p]
  | k + 1, s, p => flat n (fun j => if s.testBit j = true then [] else ext n k (s ||| 2 ^ j) (p ++ [j]))
set_option maxRecDepth 100000 in
theorem rws_ext : ∀ n, n < 7 → 2 ≤ n → (rws n 721 row0).map (fun p => p.take n) = ext n n 0 [] := by decide +kernel
/-- who has won at the end of a row -/
noncomputable def wr (w : Nat → Nat → Nat) : List Nat → Nat
  | [] => 0
  | a :: L => L.foldl w a
theorem wr_app {w : Nat → Nat → Nat} {p : List Nat} (hp : p ≠ []) (j : Nat) : wr w (p ++ [j]) = w (wr w p) j := by
  cases p with
  | nil => exact absurd rfl hp
  | cons a L =>
    show (L ++ [j]).foldl w a = w (L.foldl w a) j
    rw [List.foldl_append]
    rfl
noncomputable def sO : Nat → (Nat → Nat) → Nat
  | 0, _ => 0
  | n + 1, f => sO n f + f n
theorem sO_congr {f g : Nat → Nat} : ∀ (n : Nat), (∀ i, i < n → f i = g i) → sO n f = sO n g
  | 0, _ => rfl
  | n + 1, h => by
    show sO n f + f n = sO n g + g n
    rw [sO_congr n (fun i hi => h i (by omega)), h n (by omega)]
theorem sO_first {f : Nat → Nat} : ∀ (n : Nat), 0 < sO n f → ∃ j, j < n ∧ 0 < f j ∧ ∀ q, q < j → f q = 0
  | 0, h => absurd h (by show ¬ 0 < 0; omega)
  | n + 1, h => by
    have h : 0 < sO n f + f n := h
    by_cases c : 0 < sO n f
    · obtain ⟨j, j1, j2, j3⟩ := sO_first n c
      exact ⟨j, by omega, j2, j3⟩
    · refine ⟨n, by omega, by omega, fun q hq => ?_⟩
      by_cases z : 0 < f q
      · have le : ∀ m, q < m → f q ≤ sO m f := by
          intro m
          induction m with
          | zero => intro z; omega
          | succ m ih =>
            intro z
            show f q ≤ sO m f + f m
            by_cases e : q = m
            · rw [e]; omega
            · have := ih (by omega); omega
        have := le n hq
        omega
      · omega
/-- in how many ways i wins, from a set and who won so far -/
noncomputable def dW (n i : Nat) (w : Nat → Nat → Nat) : Nat → Nat → Nat → Nat
  | 0, _, v => if v = i then 1 else 0
  | k + 1, s, v => sO n (fun j => if s.testBit j = true then 0 else dW n i w k (s ||| 2 ^ j) (w v j))
section FLAT
variable {α : Type} {f : α → Bool} {g : Nat → List α}
theorem flat_count : ∀ (n : Nat), (flat n g).countP f = sO n (fun j => (g j).countP f)
  | 0 => rfl
  | n + 1 => by
    show (flat n g ++ g n).countP f = sO n (fun j => (g j).countP f) + (g n).countP f
    rw [List.countP_append, flat_count n]
theorem find_0 {L : List α} (h : L.countP f = 0) : L.find? f = none := by
  rw [List.find?_eq_none]
  rw [List.countP_eq_zero] at h
  exact h
theorem find_p {L : List α} (h : 0 < L.countP f) : ∃ r, L.find? f = some r := by
  cases e : L.find? f with
  | some r => exact ⟨r, rfl⟩
  | none =>
    rw [List.find?_eq_none] at e
    have : L.countP f = 0 := List.countP_eq_zero.mpr e
    omega
theorem flat_none : ∀ (n : Nat), (∀ q, q < n → (g q).countP f = 0) → (flat n g).find? f = none
  | 0, _ => rfl
  | n + 1, h => by
    show (flat n g ++ g n).find? f = none
    rw [List.find?_append, flat_none n (fun q hq => h q (by omega)), find_0 (h n (by omega))]
    rfl
theorem flat_first {j : Nat} (h1 : 0 < (g j).countP f) (h0 : ∀ q, q < j → (g q).countP f = 0) : ∀ (n : Nat), j < n → (flat n g).find? f = (g j).find? f
  | n + 1, hj => by
    show (flat n g ++ g n).find? f = _
    rw [List.find?_append]
    by_cases e : j = n
    · subst e
      rw [flat_none j h0]
      rfl
    · rw [flat_first h1 h0 n (by omega)]
      obtain ⟨r, hr⟩ := find_p h1
      rw [hr]
      rfl
end FLAT
theorem ext_count {n i : Nat} {w : Nat → Nat → Nat} : ∀ (k s : Nat) (p : List Nat), p ≠ [] → (ext n k s p).countP (fun r => decide (wr w r = i)) = dW n i w k s (wr w p)
  | 0, s, p, _ => by
    show [p].countP (fun r => decide (wr w r = i)) = if wr w p = i then 1 else 0
    rw [List.countP_cons, List.countP_nil, Nat.zero_add]
    by_cases c : wr w p = i
    · rw [if_pos c, if_pos (decide_eq_true c)]
    · rw [if_neg c, if_neg (by rw [decide_eq_false c]; decide)]
  | k + 1, s, p, hp => by
    show (flat n (fun j => if s.testBit j = true then [] else ext n k (s ||| 2 ^ j) (p ++ [j]))).countP (fun r => decide (wr w r = i)) = sO n (fun j => if s.testBit j = true then 0 else dW n i w k (s ||| 2 ^ j) (w (wr w p) j))
    rw [flat_count]
    refine sO_congr n (fun j _ => ?_)
    show (if s.testBit j = true then [] else ext n k (s ||| 2 ^ j) (p ++ [j])).countP (fun r => decide (wr w r = i)) = if s.testBit j = true then 0 else dW n i w k (s ||| 2 ^ j) (w (wr w p) j)
    by_cases c : s.testBit j = true
    · rw [if_pos c, if_pos c]
      rfl
    · rw [if_neg c, if_neg c, ext_count k (s ||| 2 ^ j) (p ++ [j]) (by simp), wr_app hp]
/-- how many are in a set -/
noncomputable def oc : Nat → Nat → Nat
  | 0, _ => 0
  | n + 1, s => oc n s + (if s.testBit n = true then 1 else 0)
noncomputable def ocb (n s j : Nat) : Bool := s.testBit j || (Nat.beq (oc n (s ||| 2 ^ j)) (oc n s + 1) && (Nat.blt (s ||| 2 ^ j) (2 ^ n) && (Nat.blt s (s ||| 2 ^ j) && ((s ||| 2 ^ j).testBit j && Nat.blt (oc n s) n))))
theorem oc_or_b : ∀ n, n < 7 → ∀ s, s < 2 ^ n → ∀ j, j < n → ocb n s j = true := by decide +kernel
theorem oc_or (n : Nat) (hn : n < 7) (s : Nat) (hs : s < 2 ^ n) (j : Nat) (hj : j < n) (h : s.testBit j = false) : oc n (s ||| 2 ^ j) = oc n s + 1 ∧ s ||| 2 ^ j < 2 ^ n ∧ s < s ||| 2 ^ j ∧ (s ||| 2 ^ j).testBit j = true ∧ oc n s < n := by
  have e := oc_or_b n hn s hs j hj
  unfold ocb at e
  rw [h, Bool.false_or, Bool.and_eq_true, Bool.and_eq_true, Bool.and_eq_true, Bool.and_eq_true] at e
  obtain ⟨e1, e2, e3, e4, e5⟩ := e
  exact ⟨Nat.eq_of_beq_eq_true e1, Nat.blt_eq.mp e2, Nat.blt_eq.mp e3, e4, Nat.blt_eq.mp e5⟩
theorem oc_1 : ∀ n, n < 7 → ∀ j, j < n → oc n (2 ^ j) = 1 ∧ 2 ^ j < 2 ^ n ∧ (2 ^ j).testBit j = true := by decide +kernel
theorem oc_b : ∀ n, n < 7 → ∀ s, s < 2 ^ n → oc n s ≤ n ∧ (s ≠ 2 ^ n - 1 → oc n s < n) ∧ (s = 2 ^ n - 1 → oc n s = n) := by decide +kernel
theorem tb_or : ∀ s, s < 64 → ∀ v, v < 6 → ∀ j, j < 6 → s.testBit v = true → (s ||| 2 ^ j).testBit v = true := by decide +kernel
theorem nI_or2 {s j : Nat} (hj : j < 32) : nI s ||| ((1 : Int32) <<< (nI j &&& 31)) = nI (s ||| 2 ^ j) := b32_ext fun k hk => by
  rw [b32_or, b32_bitn hj hk, b32_n hk, b32_n hk, Nat.testBit_or, Nat.testBit_two_pow]
  refine congrArg _ (decide_eq_decide.mpr ⟨fun z => z.symm, fun z => z.symm⟩)
theorem ix384 : ∀ s, s < 64 → ∀ v, v < 6 → ((nI s * 6) + nI v).toInt.toNat = 6 * s + v := by decide +kernel
section OR
variable {Mn : Nat} {M t : Int32} {bi W2 : List Int32} {l11 : List Int64} {now : List Int32}
/-- the one that wins, the first one on the left -/
noncomputable def wn (t : Int32) (bi now : List Int32) (a b : Nat) : Nat := if (pS t bi now a b).toInt < (pS t bi now b a).toInt then b else a
theorem wn_lt {a b : Nat} (ha : a < Mn) (hb : b < Mn) : wn t bi now a b < Mn := by
  unfold wn
  split <;> omega
theorem wn_m (h : VC Mn M t bi l11 now) {a b : Nat} (ha : a < Mn) (hb : b < Mn) : km_winsOf now (nI a) (nI b) = nI (wn t bi now a b) := by
  unfold km_winsOf wn
  rw [beats_m h hb ha]
  by_cases c : (pS t bi now a b).toInt < (pS t bi now b a).toInt
  · rw [if_pos c, if_pos c, if_neg (show ¬ (1 : Int32) = 0 by decide)]
  · rw [if_neg c, if_neg c, if_pos (show (0 : Int32) = 0 from rfl)]
theorem wn_c (h : VC Mn M t bi l11 now) (p3 : ∀ i, i < Mn → ∀ k, k < 32 → b32 (W2.getD i 0) k = decide (k < Mn ∧ (pS t bi now k i).toInt < (pS t bi now i k).toInt)) {a b : Nat} (ha : a < Mn) (hb : b < Mn) : kv_winnerOf M W2 (nI a) (nI b) = nI (wn t bi now a b) := by
  have hM := h.2.1
  have im : ∀ i, i < Mn → ¬ kt_isMeasure M (nI i) = 0 := fun i hi => by
    have ei := nI_toInt (n := i) (by omega)
    have := h.1
    unfold kt_isMeasure
    rw [if_neg (by omega), if_pos (by omega)]
    decide
  have q := p3 b hb a (by omega)
  unfold kv_winnerOf wn
  rw [if_neg (im a ha), if_neg (im b hb), nJ_ix (n := b) (by omega)]
  by_cases c : (pS t bi now a b).toInt < (pS t bi now b a).toInt
  · rw [if_neg (vt1 (by omega) (q.trans (decide_eq_true ⟨ha, c⟩))), if_pos c]
  · rw [if_pos (vt0 (by omega) (q.trans (decide_eq_false (fun z => c z.2)))), if_neg c]
/-- the table of ways is right from some set on -/
noncomputable def HA (Mn i : Nat) (w : Nat → Nat → Nat) (lo : Nat) (a : List Int32) : Prop := a.length = 384 ∧ ∀ s, lo ≤ s → s < 2 ^ Mn → ∀ v, v < Mn → s.testBit v = true → a.getD (6 * s + v) 0 = nI (dW Mn i w (Mn - oc Mn s) s v)
theorem p2_64 (h : VC Mn M t bi l11 now) : 2 ^ Mn ≤ 64 ∧ 4 ≤ 2 ^ Mn := by
  have hM := h.2.1
  exact (by decide : ∀ n, n < 7 → 2 ≤ n → 2 ^ n ≤ 64 ∧ 4 ≤ 2 ^ n) Mn (by omega) hM.1
theorem waysOn_c (h : VC Mn M t bi l11 now) (p3 : ∀ i, i < Mn → ∀ k, k < 32 → b32 (W2.getD i 0) k = decide (k < Mn ∧ (pS t bi now k i).toInt < (pS t bi now i k).toInt)) {i s v : Nat} {a : List Int32} (ha : HA Mn i (wn t bi now) (s + 1) a) (hs : s < 2 ^ Mn) (hv : v < Mn) (hb : s.testBit v = true) (hn : oc Mn s < Mn) : kv_waysOn M W2 a (nI s) (nI v) = nI (dW Mn i (wn t bi now) (Mn - oc Mn s) s v) := by
  have hM := h.2.1
  have p64 := p2_64 h
  obtain ⟨k, hk⟩ : ∃ k, Mn - oc Mn s = k + 1 := ⟨Mn - oc Mn s - 1, by omega⟩
  rw [hk]
  unfold kv_waysOn
  rw [vc_tn h]
  have loop : ∀ (m j : Nat), j + m = Mn → kv_waysOn_5 M W2 a (nI s) (nI v) m (nI (sO j (fun j => if s.testBit j = true then 0 else dW Mn i (wn t bi now) k (s ||| 2 ^ j) (wn t bi now v j)))) (nI j) = nI (sO Mn (fun j => if s.testBit j = true then 0 else dW Mn i (wn t bi now) k (s ||| 2 ^ j) (wn t bi now v j))) := by
    intro m
    induction m with
    | zero =>
      intro j hj
      rw [e0_kv_waysOn_5, show j = Mn by omega]
    | succ m ih =>
      intro j hj
      have jM : j < Mn := by omega
      have i2 := ih (j + 1) (by omega)
      have q : sO (j + 1) (fun j => if s.testBit j = true then 0 else dW Mn i (wn t bi now) k (s ||| 2 ^ j) (wn t bi now v j)) = sO j (fun j => if s.testBit j = true then 0 else dW Mn i (wn t bi now) k (s ||| 2 ^ j) (wn t bi now v j)) + (if s.testBit j = true then 0 else dW Mn i (wn t bi now) k (s ||| 2 ^ j) (wn t bi now v j)) := rfl
      rw [e_kv_waysOn_5, nJ_1 (n := j) (by omega)]
      by_cases c : s.testBit j = true
      · rw [if_neg (vt1 (by omega) ((b32_n (by omega)).trans c))]
        rw [q, if_pos c] at i2
        exact i2
      · have c' := eq_false_of_ne_true c
        obtain ⟨o1, o2, o3, o4, o5⟩ := oc_or Mn (by omega) s hs j jM c'
        have wl := wn_lt (t := t) (bi := bi) (now := now) hv jM
        have wb : (s ||| 2 ^ j).testBit (wn t bi now v j) = true := by
          unfold wn
          split
          · exact o4
          · exact tb_or s (by omega) v (by omega) j (by omega) hb
        rw [if_pos (vt0 (by omega) ((b32_n (by omega)).trans c')), nI_or2 (by omega), wn_c h p3 hv jM, ix384 _ (by omega) _ (by omega), ha.2 _ (by omega) o2 _ wl wb, nI_plus, show Mn - oc Mn (s ||| 2 ^ j) = k by omega]
        rw [q, if_neg c] at i2
        exact i2
  exact loop Mn 0 (by omega)
theorem ways_39 (h : VC Mn M t bi l11 now) (p3 : ∀ i, i < Mn → ∀ k, k < 32 → b32 (W2.getD i 0) k = decide (k < Mn ∧ (pS t bi now k i).toInt < (pS t bi now i k).toInt)) {i s : Nat} (hs : s < 2 ^ Mn) (hn : oc Mn s < Mn) : ∀ (m v : Nat) (a : List Int32), v + m = Mn → HA Mn i (wn t bi now) (s + 1) a → (∀ u, u < v → s.testBit u = true → a.getD (6 * s + u) 0 = nI (dW Mn i (wn t bi now) (Mn - oc Mn s) s u)) → HA Mn i (wn t bi now) s (kv_countOrders_39 M W2 (nI s) m (nI v) a) := by
  have hM := h.2.1
  have p64 := p2_64 h
  intro m
  induction m with
  | zero =>
    intro v a hv ha he
    rw [e0_kv_countOrders_39]
    refine ⟨ha.1, fun s' h1 h2 u hu hb => ?_⟩
    by_cases e : s' = s
    · subst e
      exact he u (by omega) hb
    · exact ha.2 s' (by omega) h2 u hu hb
  | succ m ih =>
    intro v a hv ha he
    have vM : v < Mn := by omega
    rw [e_kv_countOrders_39, nJ_1 (n := v) (by omega)]
    by_cases c : s.testBit v = true
    · rw [if_neg (vt1 (by omega) ((b32_n (by omega)).trans c)), waysOn_c h p3 ha hs vM c hn, ix384 s (by omega) v (by omega)]
      refine ih (v + 1) _ (by omega) ⟨by rw [List.length_set]; exact ha.1, fun s' h1 h2 u hu hb => ?_⟩ (fun u hu hb => ?_)
      · rw [gd_set (by rw [ha.1]; omega), if_neg (by omega)]
        exact ha.2 s' h1 h2 u hu hb
      · rw [gd_set (by rw [ha.1]; omega)]
        by_cases e : u = v
        · rw [if_pos (by omega), e]
        · rw [if_neg (by omega)]
          exact he u (by omega) hb
    · have c' := eq_false_of_ne_true c
      rw [if_pos (vt0 (by omega) ((b32_n (by omega)).trans c'))]
      refine ih (v + 1) a (by omega) ha (fun u hu hb => ?_)
      by_cases e : u = v
      · rw [e] at hb
        exact absurd hb c
      · exact he u (by omega) hb
theorem ways_32 (h : VC Mn M t bi l11 now) (p3 : ∀ i, i < Mn → ∀ k, k < 32 → b32 (W2.getD i 0) k = decide (k < Mn ∧ (pS t bi now k i).toInt < (pS t bi now i k).toInt)) {i : Nat} : ∀ (m : Nat) (y : Int32) (a : List Int32), m < 2 ^ Mn - 1 → (m = 0 ∨ y = nI m) → HA Mn i (wn t bi now) (m + 1) a → HA Mn i (wn t bi now) 1 (kv_countOrders_32 M W2 m y a) := by
  have hM := h.2.1
  have p64 := p2_64 h
  intro m
  induction m with
  | zero =>
    intro y a _ _ ha
    rw [e0_kv_countOrders_32]
    exact ha
  | succ m ih =>
    intro y a hm hy ha
    have hy : y = nI (m + 1) := by
      rcases hy with e | e
      · omega
      · exact e
    have ob := oc_b Mn (by omega) (m + 1) (by omega)
    rw [e_kv_countOrders_32, hy, vc_tn h]
    refine ih _ _ (by omega) ?_ (ways_39 h p3 (by omega) (ob.2.1 (by omega)) Mn 0 a (by omega) ha (fun u hu => by omega))
    by_cases e : m = 0
    · exact Or.inl e
    · refine Or.inr (Int32.toInt_inj.mp ?_)
      have e1 := nI_toInt (n := m + 1) (by omega)
      have e2 := nI_toInt (n := m) (by omega)
      have em : (-1 : Int32).toInt = -1 := rfl
      rw [an_add32 (by omega) (by omega), em]
      omega
theorem fill37 {l : List Int32} (h : l.length = 384) : (kja_fill_37 l 0).length = 384 ∧ ∀ q, q < 384 → (kja_fill_37 l 0).getD q 0 = 0 := by
  have loop : ∀ (m i : Nat) (l : List Int32), i + m = 384 → l.length = 384 → (∀ q, q < i → l.getD q 0 = 0) → (kja_fill_37_5 0 m (nI i) l).length = 384 ∧ ∀ q, q < 384 → (kja_fill_37_5 0 m (nI i) l).getD q 0 = 0 := by
    intro m
    induction m with
    | zero =>
      intro i l hi hl he
      rw [e0_kja_fill_37_5]
      rw [show i = 384 by omega] at he
      exact ⟨hl, he⟩
    | succ m ih =>
      intro i l hi hl he
      rw [e_kja_fill_37_5, nJ_ix (n := i) (by omega), nJ_1 (n := i) (by omega)]
      refine ih (i + 1) _ (by omega) (by rw [List.length_set]; exact hl) (fun q hq => ?_)
      rw [gd_set (by omega)]
      by_cases e : q = i
      · rw [if_pos e]
      · rw [if_neg e]
        exact he q (by omega)
  unfold kja_fill_37
  rw [h, show ((Int32.ofNat 384).toInt).toNat = 384 from rfl]
  exact loop 384 0 l rfl h (fun q hq => by omega)
/-- the class's count of orders -/
theorem orders_c (h : VC Mn M t bi l11 now) (p3 : ∀ i, i < Mn → ∀ k, k < 32 → b32 (W2.getD i 0) k = decide (k < Mn ∧ (pS t bi now k i).toInt < (pS t bi now i k).toInt)) {a37 : List Int32} (h37 : a37.length = 384) {i : Nat} (hi : i < Mn) : HA Mn i (wn t bi now) 1 (kv_countOrders M W2 a37 (nI i)).2 ∧ (kv_countOrders M W2 a37 (nI i)).1 = nI ((ext Mn Mn 0 []).countP (fun r => decide (wr (wn t bi now) r = i))) := by
  have hM := h.2.1
  have p64 := p2_64 h
  obtain ⟨eA, -, -⟩ := all_b h
  obtain ⟨f1, f2⟩ := fill37 h37
  have A0 : HA Mn i (wn t bi now) (2 ^ Mn - 2 + 1) ((kja_fill_37 a37 0).set (6 * (2 ^ Mn - 1) + i) 1) := by
    refine ⟨by rw [List.length_set]; exact f1, fun s h1 h2 v hv _ => ?_⟩
    have es : s = 2 ^ Mn - 1 := by omega
    have ob := oc_b Mn (by omega) s h2
    rw [gd_set (by omega), ob.2.2 es, Nat.sub_self, f2 _ (by omega), es]
    show _ = nI (if v = i then 1 else 0)
    by_cases e : v = i
    · rw [if_pos (by omega), if_pos e]
      rfl
    · rw [if_neg (by omega), if_neg e]
      rfl
  have em : (nI (2 ^ Mn - 1) - 1).toInt.toNat = 2 ^ Mn - 2 ∧ nI (2 ^ Mn - 1) - 1 = nI (2 ^ Mn - 2) := (by decide +kernel : ∀ n, n < 7 → 2 ≤ n → (nI (2 ^ n - 1) - 1).toInt.toNat = 2 ^ n - 2 ∧ nI (2 ^ n - 1) - 1 = nI (2 ^ n - 2)) Mn (by omega) hM.1
  have A1 := ways_32 h p3 (2 ^ Mn - 2) (nI (2 ^ Mn - 2)) _ (by omega) (Or.inr rfl) A0
  unfold kv_countOrders
  rw [eA, ix384 (2 ^ Mn - 1) (by omega) i (by omega), em.1, em.2, vc_tn h]
  refine ⟨A1, ?_⟩
  generalize kv_countOrders_32 M W2 (2 ^ Mn - 2) (nI (2 ^ Mn - 2)) ((kja_fill_37 a37 0).set (6 * (2 ^ Mn - 1) + i) 1) = a at A1
  have loop : ∀ (m j : Nat), j + m = Mn → kv_countOrders_96 a m (nI (sO j (fun j => dW Mn i (wn t bi now) (Mn - 1) (2 ^ j) j))) (nI j) = nI (sO Mn (fun j => dW Mn i (wn t bi now) (Mn - 1) (2 ^ j) j)) := by
    intro m
    induction m with
    | zero =>
      intro j hj
      rw [e0_kv_countOrders_96, show j = Mn by omega]
    | succ m ih =>
      intro j hj
      obtain ⟨o1, o2, o3⟩ := oc_1 Mn (by omega) j (by omega)
      have tp : 0 < 2 ^ j := Nat.two_pow_pos j
      have e1 : (1 : Int32) <<< (nI j &&& 31) = nI (2 ^ j) := by
        have q := nI_or2 (s := 0) (j := j) (by omega)
        rw [Nat.zero_or] at q
        rw [← q]
        exact b32_ext fun k _ => by rw [b32_or, show nI 0 = 0 from rfl, b32_0, Bool.false_or]
      rw [e_kv_countOrders_96, nJ_1 (n := j) (by omega), e1, ix384 (2 ^ j) (by omega) j (by omega), A1.2 (2 ^ j) (by omega) o2 j (by omega) o3, o1, nI_plus]
      exact ih (j + 1) (by omega)
  refine Eq.trans (loop Mn 0 (by omega)) (congrArg nI ?_)
  obtain ⟨k, hk⟩ : ∃ k, Mn = k + 1 := ⟨Mn - 1, by omega⟩
  have ex : ext Mn Mn 0 [] = flat Mn (fun j => if (0 : Nat).testBit j = true then [] else ext Mn (Mn - 1) (0 ||| 2 ^ j) ([] ++ [j])) := by
    rw [show ext Mn Mn 0 [] = ext Mn (k + 1) 0 [] by rw [← hk], show Mn - 1 = k by omega]
    rfl
  rw [ex, flat_count]
  refine sO_congr Mn (fun j _ => ?_)
  show _ = (if (0 : Nat).testBit j = true then [] else ext Mn (Mn - 1) (0 ||| 2 ^ j) ([] ++ [j])).countP (fun r => decide (wr (wn t bi now) r = i))
  rw [Nat.zero_testBit, if_neg (by decide), Nat.zero_or, ext_count _ _ _ (by simp)]
  rfl
/-- the class's least row -/
theorem least_20 (h : VC Mn M t bi l11 now) (p3 : ∀ i, i < Mn → ∀ k, k < 32 → b32 (W2.getD i 0) k = decide (k < Mn ∧ (pS t bi now k i).toInt < (pS t bi now i k).toInt)) {i s v k j0 : Nat} {a a39 : List Int32} (ha : HA Mn i (wn t bi now) 1 a) (hs : s < 2 ^ Mn) (hv : 0 < k → v < Mn ∧ s.testBit v = true) (hk : k < 6) (val : Nat → Nat) (hval : ∀ j, val j = if k = 0 then j else wn t bi now v j) (hj : j0 < Mn) (hb : s.testBit j0 = false) (hp : 0 < dW Mn i (wn t bi now) (Mn - (oc Mn s + 1)) (s ||| 2 ^ j0) (val j0)) (h0 : ∀ q, q < j0 → s.testBit q = true ∨ dW Mn i (wn t bi now) (Mn - (oc Mn s + 1)) (s ||| 2 ^ q) (val q) = 0) (hb2 : ∀ q, q < Mn → s.testBit q = false → dW Mn i (wn t bi now) (Mn - (oc Mn s + 1)) (s ||| 2 ^ q) (val q) < 100000) : ∀ (m j : Nat), j + m = Mn → j ≤ j0 → kv_findLeastOrder_20 M W2 a (nI k) m (nI s) (nI v) (nI j) a39 = (nI (s ||| 2 ^ j0), nI (val j0), a39.set k (nI j0)) := by
  have hM := h.2.1
  have p64 := p2_64 h
  intro m
  induction m with
  | zero => intro j h1 h2; omega
  | succ m ih =>
    intro j h1 h2
    have jM : j < Mn := by omega
    have tp : 0 < 2 ^ j := Nat.two_pow_pos j
    have same : nI s ||| ((1 : Int32) <<< (nI j &&& 31)) = nI s ↔ s.testBit j = true := by
      rw [nI_or2 (by omega)]
      constructor
      · intro z
        have l : s ||| 2 ^ j < 2147483648 := by
          by_cases c : s.testBit j = true
          · have := Nat.or_lt_two_pow (x := s) (y := 2 ^ j) (n := 6) (by omega) (by have := (oc_1 Mn (by omega) j jM).2.1; omega)
            omega
          · have := (oc_or Mn (by omega) s hs j jM (eq_false_of_ne_true c)).2.1
            omega
        have e := nJ_inj l (by omega) z
        rw [← e, Nat.testBit_or, (oc_1 Mn (by omega) j jM).2.2, Bool.or_true]
      · intro z
        refine congrArg nI (Nat.eq_of_testBit_eq (fun q => ?_))
        rw [Nat.testBit_or, Nat.testBit_two_pow]
        by_cases e : j = q
        · subst e
          rw [z]
          rfl
        · rw [decide_eq_false e, Bool.or_false]
    have read : s.testBit j = false → a.getD (6 * (s ||| 2 ^ j) + val j) 0 = nI (dW Mn i (wn t bi now) (Mn - (oc Mn s + 1)) (s ||| 2 ^ j) (val j)) ∧ s ||| 2 ^ j < 64 ∧ val j < Mn := fun z => by
      obtain ⟨o1, o2, o3, o4, o5⟩ := oc_or Mn (by omega) s hs j jM z
      have vl : val j < Mn ∧ (s ||| 2 ^ j).testBit (val j) = true := by
        rw [hval]
        by_cases e : k = 0
        · rw [if_pos e]
          exact ⟨jM, o4⟩
        · rw [if_neg e]
          have hv' := hv (by omega)
          refine ⟨wn_lt hv'.1 jM, ?_⟩
          unfold wn
          split
          · exact o4
          · exact tb_or s (by omega) v (by omega) j (by omega) hv'.2
      have q := ha.2 (s ||| 2 ^ j) (by omega) o2 (val j) vl.1 vl.2
      rw [o1] at q
      exact ⟨q, by omega, vl.1⟩
    have step : kv_findLeastOrder_20 M W2 a (nI k) (m + 1) (nI s) (nI v) (nI j) a39 = if nI s ||| ((1 : Int32) <<< (nI j &&& 31)) = nI s then kv_findLeastOrder_20 M W2 a (nI k) m (nI s) (nI v) (nI (j + 1)) a39 else if 0 < (a.getD (6 * (s ||| 2 ^ j) + val j) 0).toInt then (nI (s ||| 2 ^ j), nI (val j), a39.set k (nI j)) else kv_findLeastOrder_20 M W2 a (nI k) m (nI s) (nI v) (nI (j + 1)) a39 := by
      rw [e_kv_findLeastOrder_20, nJ_1 (n := j) (by omega), nJ_ix (n := k) (by omega)]
      by_cases c : nI s ||| ((1 : Int32) <<< (nI j &&& 31)) = nI s
      · rw [if_pos c, if_pos c, if_pos c]
        split <;> rfl
      · have z := eq_false_of_ne_true (fun z => c (same.mpr z))
        have r := read z
        rw [if_neg c, if_neg c, if_neg c, nI_or2 (by omega)]
        by_cases e : k = 0
        · have ev : val j = j := by rw [hval, if_pos e]
          rw [if_pos (show nI k = 0 by rw [e]; rfl), ix384 _ r.2.1 j (by omega), ev]
        · have hv' := hv (by omega)
          have ev : val j = wn t bi now v j := by rw [hval, if_neg e]
          rw [if_neg (show ¬ nI k = 0 from fun z => e (nJ_inj (m := k) (n := 0) (by omega) (by omega) z)), wn_c h p3 hv'.1 jM, ix384 _ r.2.1 _ (by rw [← ev]; omega), ev]
    rw [step]
    by_cases c : s.testBit j = true
    · rw [if_pos (same.mpr c)]
      by_cases e : j = j0
      · rw [e, hb] at c
        cases c
      · exact ih (j + 1) (by omega) (by omega)
    · have c' := eq_false_of_ne_true c
      have r := read c'
      have lt := hb2 j jM c'
      rw [if_neg (fun z => c (same.mp z)), r.1, nI_toInt (n := dW Mn i (wn t bi now) (Mn - (oc Mn s + 1)) (s ||| 2 ^ j) (val j)) (by omega)]
      by_cases e : j = j0
      · subst e
        rw [if_pos (by omega)]
      · have z := h0 j (by omega)
        rcases z with z | z
        · rw [c'] at z; cases z
        · rw [z, if_neg (by omega)]
          exact ih (j + 1) (by omega) (by omega)
end OR
