/-! orders: the least row, and the reference -/
theorem sO_le {b : Nat} {f : Nat → Nat} : ∀ (n : Nat), (∀ j, j < n → f j ≤ b) → sO n f ≤ n * b
  | 0, _ => Nat.zero_le _
  | n + 1, h => by
    have := sO_le (b := b) (f := f) n (fun j hj => h j (by omega))
    have := h n (by omega)
    show sO n f + f n ≤ (n + 1) * b
    rw [Nat.succ_mul]
    omega
theorem dW_le {n i : Nat} {w : Nat → Nat → Nat} (hn : 1 ≤ n) : ∀ (k s v : Nat), dW n i w k s v ≤ n ^ k
  | 0, s, v => by
    show (if v = i then 1 else 0) ≤ 1
    split <;> omega
  | k + 1, s, v => by
    show sO n (fun j => if s.testBit j = true then 0 else dW n i w k (s ||| 2 ^ j) (w v j)) ≤ n ^ (k + 1)
    rw [Nat.pow_succ, Nat.mul_comm]
    refine sO_le n (fun j _ => ?_)
    show (if s.testBit j = true then 0 else dW n i w k (s ||| 2 ^ j) (w v j)) ≤ n ^ k
    split
    · omega
    · exact dW_le hn k _ _
theorem pow_6 {n k : Nat} (hn : n ≤ 6) (hk : k ≤ 6) : n ^ k ≤ 46656 := by
  have a1 : n ^ k ≤ 6 ^ k := Nat.pow_le_pow_left hn _
  have a2 : 6 ^ k ≤ 6 ^ 6 := Nat.pow_le_pow_right (by omega) hk
  have a3 : 6 ^ 6 = 46656 := by decide
  omega
section OS
variable {Mn : Nat} {M t : Int32} {bi W2 : List Int32} {l11 : List Int64} {now : List Int32}
theorem least_6 (h : VC Mn M t bi l11 now) (p3 : ∀ i, i < Mn → ∀ k, k < 32 → b32 (W2.getD i 0) k = decide (k < Mn ∧ (pS t bi now k i).toInt < (pS t bi now i k).toInt)) {i : Nat} {a : List Int32} (ha : HA Mn i (wn t bi now) 1 a) : ∀ (m k s v : Nat) (p : List Nat) (a39 : List Int32), k + m = Mn → oc Mn s = k → s < 2 ^ Mn → (0 < k → v < Mn ∧ s.testBit v = true ∧ p ≠ [] ∧ wr (wn t bi now) p = v) → (k = 0 → p = []) → p.length = k → a39.length = 6 → (∀ q, q < k → a39.getD q 0 = nI (p.getD q 0)) → 0 < (ext Mn m s p).countP (fun r => decide (wr (wn t bi now) r = i)) → ∃ r, (ext Mn m s p).find? (fun r => decide (wr (wn t bi now) r = i)) = some r ∧ ∀ q, q < Mn → (kv_findLeastOrder_6 M W2 a m (nI s) (nI v) (nI k) a39).getD q 0 = nI (r.getD q 0) := by
  have hM := h.2.1
  have p64 := p2_64 h
  intro m
  induction m with
  | zero =>
    intro k s v p a39 hk ho hs hv h0 hl h39 he hc
    have hc : 0 < [p].countP (fun r => decide (wr (wn t bi now) r = i)) := hc
    rw [List.countP_cons, List.countP_nil, Nat.zero_add] at hc
    have hw : decide (wr (wn t bi now) p = i) = true := by
      by_cases c : decide (wr (wn t bi now) p = i) = true
      · exact c
      · rw [if_neg c] at hc
        omega
    refine ⟨p, ?_, fun q hq => ?_⟩
    · show [p].find? (fun r => decide (wr (wn t bi now) r = i)) = some p
      exact List.find?_cons_of_pos hw
    · rw [e0_kv_findLeastOrder_6]
      exact he q (by omega)
  | succ m ih =>
    intro k s v p a39 hk ho hs hv h0 hl h39 he hc
    have hc : 0 < (flat Mn (fun j => if s.testBit j = true then [] else ext Mn m (s ||| 2 ^ j) (p ++ [j]))).countP (fun r => decide (wr (wn t bi now) r = i)) := hc
    rw [flat_count] at hc
    obtain ⟨j0, j1, j2, j3⟩ := sO_first Mn hc
    have j2 : 0 < (if s.testBit j0 = true then [] else ext Mn m (s ||| 2 ^ j0) (p ++ [j0])).countP (fun r => decide (wr (wn t bi now) r = i)) := j2
    have j3 : ∀ q, q < j0 → (if s.testBit q = true then [] else ext Mn m (s ||| 2 ^ q) (p ++ [q])).countP (fun r => decide (wr (wn t bi now) r = i)) = 0 := j3
    have hb : s.testBit j0 = false := by
      cases c : s.testBit j0 with
      | false => rfl
      | true =>
        rw [if_pos c] at j2
        exact absurd j2 (by show ¬ 0 < 0; omega)
    have val : ∀ j, wr (wn t bi now) (p ++ [j]) = if k = 0 then j else wn t bi now v j := fun j => by
      by_cases e : k = 0
      · rw [if_pos e, h0 e]
        rfl
      · have hv' := hv (by omega)
        rw [if_neg e, wr_app hv'.2.2.1, hv'.2.2.2]
    have cnt' : ∀ j, s.testBit j = false → (if s.testBit j = true then [] else ext Mn m (s ||| 2 ^ j) (p ++ [j])).countP (fun r => decide (wr (wn t bi now) r = i)) = dW Mn i (wn t bi now) (Mn - (oc Mn s + 1)) (s ||| 2 ^ j) (if k = 0 then j else wn t bi now v j) := fun j hj => by
      rw [if_neg (by rw [hj]; decide), ext_count _ _ _ (by simp), val, show Mn - (oc Mn s + 1) = m by omega]
    have T := least_20 (a39 := a39) h p3 ha hs (v := v) (k := k) (j0 := j0) (fun z => ⟨(hv z).1, (hv z).2.1⟩) (by omega) (fun j => if k = 0 then j else wn t bi now v j) (fun _ => rfl) j1 hb (by
      rw [← cnt' j0 hb]
      exact j2) (fun q hq => by
      cases c : s.testBit q with
      | true => exact Or.inl rfl
      | false => exact Or.inr ((cnt' q c).symm.trans (j3 q hq))) (fun q _ _ => by
      have := dW_le (n := Mn) (i := i) (w := wn t bi now) (by omega) (Mn - (oc Mn s + 1)) (s ||| 2 ^ q) (if k = 0 then q else wn t bi now v q)
      have := pow_6 hM.2 (k := Mn - (oc Mn s + 1)) (by omega)
      show dW Mn i (wn t bi now) (Mn - (oc Mn s + 1)) (s ||| 2 ^ q) (if k = 0 then q else wn t bi now v q) < 100000
      omega) Mn 0 (by omega) (by omega)
    have T : kv_findLeastOrder_20 M W2 a (nI k) Mn (nI s) (nI v) 0 a39 = (nI (s ||| 2 ^ j0), nI (if k = 0 then j0 else wn t bi now v j0), a39.set k (nI j0)) := T
    obtain ⟨o1, o2, o3, o4, o5⟩ := oc_or Mn (by omega) s hs j0 j1 hb
    have vl : (if k = 0 then j0 else wn t bi now v j0) < Mn ∧ (s ||| 2 ^ j0).testBit (if k = 0 then j0 else wn t bi now v j0) = true := by
      by_cases e : k = 0
      · rw [if_pos e]
        exact ⟨j1, o4⟩
      · rw [if_neg e]
        have hv' := hv (by omega)
        refine ⟨wn_lt hv'.1 j1, ?_⟩
        unfold wn
        split
        · exact o4
        · exact tb_or s (by omega) v (by omega) j0 (by omega) hv'.2.1
    obtain ⟨r, r1, r2⟩ := ih (k + 1) (s ||| 2 ^ j0) (if k = 0 then j0 else wn t bi now v j0) (p ++ [j0]) (a39.set k (nI j0)) (by omega) (by omega) o2 (fun _ => ⟨vl.1, vl.2, by simp, val j0⟩) (fun z => by omega) (by rw [List.length_append, hl]; rfl) (by rw [List.length_set]; exact h39) (fun q hq => by
      rw [gd_set (by omega)]
      by_cases e : q = k
      · rw [if_pos e, List.getD_eq_getElem?_getD, List.getElem?_append_right (by omega), show q - p.length = 0 by omega]
        rfl
      · rw [if_neg e, List.getD_eq_getElem?_getD (l := p ++ [j0]), List.getElem?_append_left (by omega), ← List.getD_eq_getElem?_getD]
        exact he q (by omega)) (by
      rw [if_neg (by rw [hb]; decide)] at j2
      exact j2)
    refine ⟨r, ?_, fun q hq => ?_⟩
    · show (flat Mn (fun j => if s.testBit j = true then [] else ext Mn m (s ||| 2 ^ j) (p ++ [j]))).find? (fun r => decide (wr (wn t bi now) r = i)) = some r
      rw [flat_first (g := fun j => if s.testBit j = true then [] else ext Mn m (s ||| 2 ^ j) (p ++ [j])) (j := j0) j2 j3 Mn j1]
      show (if s.testBit j0 = true then [] else ext Mn m (s ||| 2 ^ j0) (p ++ [j0])).find? (fun r => decide (wr (wn t bi now) r = i)) = some r
      rw [if_neg (by rw [hb]; decide)]
      exact r1
    · rw [e_kv_findLeastOrder_6, vc_tn h, T, nJ_1 (n := k) (by omega)]
      exact r2 q hq
/-- the reference: who wins a row -/
theorem row_49 (h : VC Mn M t bi l11 now) {l : List Int32} {p : List Nat} (ha : agr l p Mn) (hb : ∀ i, i < Mn → p.getD i 0 < Mn) : km_orders_49 now l (M.toInt - 1).toNat (l.getD 0 0) 1 = nI (wr (wn t bi now) (p.take Mn)) ∧ wr (wn t bi now) (p.take Mn) < Mn := by
  have hM := h.2.1
  obtain ⟨a1, a2, a3⟩ := ha
  have pe : ∀ j, j < Mn → (p.take Mn).drop j = p.getD j 0 :: (p.take Mn).drop (j + 1) := fun j hj => by
    have jl : j < (p.take Mn).length := by rw [List.length_take]; omega
    rw [List.drop_eq_getElem_cons jl, List.getElem_take, List.getD_eq_getElem?_getD, List.getElem?_eq_getElem (by omega)]
    rfl
  have le : ∀ j, j < Mn → l.getD j 0 = nI (p.getD j 0) := fun j hj => nJ_of (a3 j hj)
  have loop : ∀ (m j v : Nat), j + m = Mn → v < Mn → km_orders_49 now l m (nI v) (nI j) = nI (((p.take Mn).drop j).foldl (wn t bi now) v) ∧ ((p.take Mn).drop j).foldl (wn t bi now) v < Mn := by
    intro m
    induction m with
    | zero =>
      intro j v hj hv
      rw [e0_km_orders_49, List.drop_of_length_le (by rw [List.length_take]; omega)]
      exact ⟨rfl, hv⟩
    | succ m ih =>
      intro j v hj hv
      have pj := hb j (by omega)
      rw [e_km_orders_49, nJ_ix (n := j) (by omega), le j (by omega), wn_m h hv pj, nJ_1 (n := j) (by omega), pe j (by omega)]
      exact ih (j + 1) _ (by omega) (wn_lt hv pj)
  have e0 : p.take Mn = p.getD 0 0 :: (p.take Mn).drop 1 := by
    have := pe 0 (by omega)
    rw [List.drop_zero] at this
    exact this
  have m1 := h.1
  rw [show (M.toInt - 1).toNat = Mn - 1 by omega, le 0 (by omega)]
  have q := loop (Mn - 1) 1 (p.getD 0 0) (by omega) (hb 0 (by omega))
  have ew : wr (wn t bi now) (p.take Mn) = ((p.take Mn).drop 1).foldl (wn t bi now) (p.getD 0 0) := by
    rw [e0]
    rfl
  rw [ew]
  exact q
theorem keeps_m {a b : List Int32} (h : VC Mn M t bi l11 now) (hb : b.length = 6) : (km_keepsRow M a b).length = 6 ∧ ∀ q, q < Mn → (km_keepsRow M a b).getD q 0 = a.getD q 0 := by
  have hM := h.2.1
  unfold km_keepsRow
  rw [vc_tn h]
  have loop : ∀ (m j : Nat) (l : List Int32), j + m = Mn → l.length = 6 → (∀ q, q < j → l.getD q 0 = a.getD q 0) → (km_keepsRow_2 a m (nI j) l).length = 6 ∧ ∀ q, q < Mn → (km_keepsRow_2 a m (nI j) l).getD q 0 = a.getD q 0 := by
    intro m
    induction m with
    | zero =>
      intro j l hj hl he
      rw [e0_km_keepsRow_2]
      rw [show j = Mn by omega] at he
      exact ⟨hl, he⟩
    | succ m ih =>
      intro j l hj hl he
      rw [e_km_keepsRow_2, nJ_ix (n := j) (by omega), nJ_1 (n := j) (by omega)]
      refine ih (j + 1) _ (by omega) (by rw [List.length_set]; exact hl) (fun q hq => ?_)
      rw [gd_set (by omega)]
      by_cases e : q = j
      · rw [if_pos e, e]
      · rw [if_neg e]
        exact he q (by omega)
  exact loop Mn 0 b (by omega) hb (fun q hq => by omega)
theorem begins_m {a : List Int32} (h : VC Mn M t bi l11 now) (ha : a.length = 6) : agr (km_beginsRows M a) row0 Mn := by
  have hM := h.2.1
  unfold km_beginsRows
  rw [vc_tn h]
  have loop : ∀ (m j : Nat) (l : List Int32), j + m = Mn → l.length = 6 → (∀ q, q < j → l.getD q 0 = nI q) → (km_beginsRows_2 m (nI j) l).length = 6 ∧ ∀ q, q < Mn → (km_beginsRows_2 m (nI j) l).getD q 0 = nI q := by
    intro m
    induction m with
    | zero =>
      intro j l hj hl he
      rw [e0_km_beginsRows_2]
      rw [show j = Mn by omega] at he
      exact ⟨hl, he⟩
    | succ m ih =>
      intro j l hj hl he
      rw [e_km_beginsRows_2, nJ_ix (n := j) (by omega), nJ_1 (n := j) (by omega)]
      refine ih (j + 1) _ (by omega) (by rw [List.length_set]; exact hl) (fun q hq => ?_)
      rw [gd_set (by omega)]
      by_cases e : q = j
      · rw [if_pos e, e]
      · rw [if_neg e]
        exact he q (by omega)
  obtain ⟨q1, q2⟩ := loop Mn 0 a (by omega) ha (fun q hq => by omega)
  exact ⟨q1, rfl, fun q hq => by
    have q2 : (km_beginsRows_2 Mn 0 a).getD q 0 = nI q := q2 q hq
    rw [q2, nI_toInt (by omega), row0_gd q (by omega)]⟩
theorem or_33 (h : VC Mn M t bi l11 now) {i f : Nat} (hi : i < Mn) (hf : 6 ≤ f) : ∀ (k c m : Nat) (p : List Nat) (a92 a93 : List Int32), rn Mn k p = true → agr a92 p Mn → a93.length = 6 → k < m → c + k ≤ 100000 → (km_orders_33 f M now (nI i) m (nI c) 1 a92 a93).1 = nI (c + ((rws Mn k p).map (fun p : List Nat => p.take Mn)).countP (fun r => decide (wr (wn t bi now) r = i))) ∧ (c ≠ 0 → ∀ q, q < Mn → (km_orders_33 f M now (nI i) m (nI c) 1 a92 a93).2.2.getD q 0 = a93.getD q 0) ∧ (c = 0 → ∀ r, ((rws Mn k p).map (fun p : List Nat => p.take Mn)).find? (fun r => decide (wr (wn t bi now) r = i)) = some r → ∀ q, q < Mn → (km_orders_33 f M now (nI i) m (nI c) 1 a92 a93).2.2.getD q 0 = nI (r.getD q 0)) := by
  have hM := h.2.1
  have eM : M = nI Mn := nJ_of h.1
  intro k
  induction k with
  | zero =>
    intro c m p a92 a93 hr
    cases hr
  | succ k ih =>
    intro c m p a92 a93 hr ha h93 hm hc
    obtain ⟨m, rfl⟩ : ∃ m', m = m' + 1 := ⟨m - 1, by omega⟩
    obtain ⟨b1, b2⟩ := rn_b hr
    obtain ⟨w1, w2⟩ := row_49 h ha b1
    obtain ⟨g0, g1⟩ := gm_x (f := f) (M := M) hM eM hf ha
    have stop : ∀ (y : Int32) (u v : List Int32), km_orders_33 f M now (nI i) m y 0 u v = (y, u, v) := fun y u v => by
      obtain ⟨m', rfl⟩ : ∃ m', m = m' + 1 := ⟨m - 1, by omega⟩
      rw [e_km_orders_33, if_pos rfl]
    have rest : ∀ (c' : Nat) (b : List Int32), b.length = 6 → c' + k ≤ 100000 → (km_orders_33 f M now (nI i) m (nI c') (km_goesNext f a92 M).1 (km_goesNext f a92 M).2 b).1 = nI (c' + ((match nnx Mn p with | none => [] | some q => rws Mn k q).map (fun p : List Nat => p.take Mn)).countP (fun r => decide (wr (wn t bi now) r = i))) ∧ (c' ≠ 0 → ∀ q, q < Mn → (km_orders_33 f M now (nI i) m (nI c') (km_goesNext f a92 M).1 (km_goesNext f a92 M).2 b).2.2.getD q 0 = b.getD q 0) ∧ (c' = 0 → ∀ r, ((match nnx Mn p with | none => [] | some q => rws Mn k q).map (fun p : List Nat => p.take Mn)).find? (fun r => decide (wr (wn t bi now) r = i)) = some r → ∀ q, q < Mn → (km_orders_33 f M now (nI i) m (nI c') (km_goesNext f a92 M).1 (km_goesNext f a92 M).2 b).2.2.getD q 0 = nI (r.getD q 0)) := fun c' b hb hc' => by
      cases e : nnx Mn p with
      | none =>
        obtain ⟨z1, -⟩ := g0 e
        rw [z1, stop]
        exact ⟨rfl, fun _ _ _ => rfl, fun _ r z => by cases z⟩
      | some p' =>
        obtain ⟨z1, z2⟩ := g1 p' e
        rw [z1]
        exact ih c' m p' _ b (b2 p' e) z2 hb (by omega) hc'
    have er : (rws Mn (k + 1) p).map (fun p : List Nat => p.take Mn) = p.take Mn :: (match nnx Mn p with | none => [] | some q => rws Mn k q).map (fun p : List Nat => p.take Mn) := rfl
    rw [e_km_orders_33, if_neg (show ¬ (1 : Int32) = 0 by decide), w1, er, List.countP_cons, List.find?_cons]
    by_cases cw : wr (wn t bi now) (p.take Mn) = i
    · rw [if_pos (by rw [cw]), decide_eq_true cw, if_pos rfl]
      by_cases c0 : c = 0
      · subst c0
        rw [if_pos (show nI 0 = 0 from rfl), nJ_1 (n := 0) (by omega)]
        obtain ⟨k1, k2⟩ := keeps_m (a := a92) (b := a93) h h93
        obtain ⟨r1, r2, -⟩ := rest 1 (km_keepsRow M a92 a93) k1 (by omega)
        refine ⟨?_, fun z => absurd rfl z, fun _ r z q hq => ?_⟩
        · rw [show 0 + 1 = 1 from rfl, r1]
          exact congrArg nI (by omega)
        · injection z with z
          subst z
          refine ((r2 (by omega)) q hq).trans ((k2 q hq).trans ?_)
          rw [nJ_of (ha.2.2 q hq)]
          refine congrArg nI ?_
          rw [List.getD_eq_getElem?_getD, List.getD_eq_getElem?_getD, List.getElem?_take, if_pos hq]
      · rw [if_neg (show ¬ nI c = 0 from fun z => c0 (nJ_inj (m := c) (n := 0) (by omega) (by omega) z)), nJ_1 (n := c) (by omega)]
        obtain ⟨r1, r2, -⟩ := rest (c + 1) a93 h93 (by omega)
        refine ⟨?_, fun _ => r2 (by omega), fun z => absurd z c0⟩
        rw [r1]
        exact congrArg nI (by omega)
    · rw [if_neg (fun z => cw (nJ_inj (by omega) (by omega) z)), decide_eq_false cw, if_neg (show ¬ (false : Bool) = true by decide), Int32.add_zero]
      obtain ⟨r1, r2, r3⟩ := rest c a93 h93 (by omega)
      exact ⟨r1, r2, r3⟩
theorem orders_pure (h : VC Mn M t bi l11 now) {a32 a33 a37 a39 a92 a93 : List Int32} (h32 : a32.length = 36) (h33 : a33.length = 6) (h37 : a37.length = 384) (h39 : a39.length = 6) (h92 : a92.length = 6) (h93 : a93.length = 6) {f : Nat} (hf : 800 ≤ f) {x y : Int32} : (kc_orders M t bi a32 a33 a37 a39 l11 x y).1 = (km_orders f M now a92 a93 x y).1 := by
  have hM := h.2.1
  obtain ⟨-, -, p3⟩ := weigh_c h h32 h33
  unfold kc_orders km_orders
  generalize (kv_weighPairs M t bi a32 a33 l11).2 = W2 at p3
  rcases vc_isM h x with ⟨a, b⟩ | ⟨a, b, i, rfl, hi⟩
  · rw [if_pos a, if_pos b]
  · rw [if_neg a, if_neg b]
    obtain ⟨o1, o2⟩ := orders_c h p3 h37 hi
    obtain ⟨q1, -, q3⟩ := or_33 h hi (f := f) (by omega) 721 0 f row0 (km_beginsRows M a92) a93 (rn_ok Mn (by omega) hM.1) (begins_m h h92) h93 (by omega) (by omega)
    have q3 := q3 rfl
    rw [rws_ext Mn (by omega) hM.1] at q1 q3
    rw [Nat.zero_add] at q1
    have N0 : (ext Mn Mn 0 []).countP (fun r => decide (wr (wn t bi now) r = i)) < 100000 := by
      obtain ⟨k, hk⟩ : ∃ k, Mn = k + 1 := ⟨Mn - 1, by omega⟩
      have ex : ext Mn Mn 0 [] = flat Mn (fun j => if (0 : Nat).testBit j = true then [] else ext Mn k (0 ||| 2 ^ j) ([] ++ [j])) := by
        rw [show ext Mn Mn 0 [] = ext Mn (k + 1) 0 [] by rw [← hk]]
        rfl
      rw [ex, flat_count]
      have l := sO_le (b := 46656 / 6) (f := fun j => (if (0 : Nat).testBit j = true then [] else ext Mn k (0 ||| 2 ^ j) ([] ++ [j])).countP (fun r => decide (wr (wn t bi now) r = i))) Mn (fun j _ => by
        show (if (0 : Nat).testBit j = true then [] else ext Mn k (0 ||| 2 ^ j) ([] ++ [j])).countP (fun r => decide (wr (wn t bi now) r = i)) ≤ 7776
        rw [Nat.zero_testBit, if_neg (by decide), ext_count _ _ _ (by simp)]
        have a0 := dW_le (n := Mn) (i := i) (w := wn t bi now) (by omega) k (0 ||| 2 ^ j) (wr (wn t bi now) ([] ++ [j]))
        have a1 : Mn ^ k ≤ 6 ^ k := Nat.pow_le_pow_left hM.2 _
        have a2 : 6 ^ k ≤ 6 ^ 5 := Nat.pow_le_pow_right (by omega) (by omega)
        have a3 : 6 ^ 5 = 7776 := by decide
        omega)
      have l2 : Mn * (46656 / 6) ≤ 6 * (46656 / 6) := Nat.mul_le_mul_right _ hM.2
      omega
    have q1 : (km_orders_33 f M now (nI i) f 0 1 (km_beginsRows M a92) a93).1 = nI ((ext Mn Mn 0 []).countP (fun r => decide (wr (wn t bi now) r = i))) := q1
    by_cases e : y = 10
    · rw [if_pos e, if_pos e]
      exact o2.trans q1.symm
    · rw [if_neg e, if_neg e]
      rcases vc_isM h y with ⟨a, b⟩ | ⟨a, b, j, rfl, hj⟩
      · rw [if_pos a, if_pos b]
      · rw [if_neg a, if_neg b, o2, q1]
        by_cases z : (ext Mn Mn 0 []).countP (fun r => decide (wr (wn t bi now) r = i)) = 0
        · rw [z, if_pos (show nI 0 = 0 from rfl), if_pos (show nI 0 = 0 from rfl)]
        · have nz : ¬ nI ((ext Mn Mn 0 []).countP (fun r => decide (wr (wn t bi now) r = i))) = 0 := fun w => z (nJ_inj (n := 0) (by omega) (by omega) w)
          rw [if_neg nz, if_neg nz]
          obtain ⟨r, r1, r2⟩ := least_6 h p3 o1 Mn 0 0 0 [] a39 (by omega) ((by decide +kernel : ∀ n, n < 7 → oc n 0 = 0) Mn (by omega)) (Nat.two_pow_pos Mn) (fun z => by omega) (fun _ => rfl) rfl h39 (fun q hq => by omega) (by omega)
          show (kv_findLeastOrder M W2 (kv_countOrders M W2 a37 (nI i)).2 a39).getD (nI j).toInt.toNat 0 = (km_orders_33 f M now (nI i) f 0 1 (km_beginsRows M a92) a93).2.2.getD (nI j).toInt.toNat 0
          rw [nJ_ix (n := j) (by omega)]
          unfold kv_findLeastOrder
          rw [vc_tn h]
          exact (r2 j hj).trans (q3 r r1 j hj).symm
end OS
section ANOS
variable {as : List Int32} {hp hp1 hp2 : sm_H} {r1 r2 : Int32}
theorem an_orders (hl : as.length = 2) (hI : ivH IV hp) (hR : R123 hp) (m1 : EM 400 99 (.ref 0 :: as.map Value.int) hp (some (.int r1)) hp1) (hI1 : ivH IV hp1) (m2 : EM 400 223 (.ref 67 :: as.map Value.int) hp1 (some (.int r2)) hp2) : r1 = r2 := by
  obtain ⟨x, y, rfl⟩ := ln2 hl
  obtain ⟨e1, h1⟩ := u_kc_orders hI m1
  obtain ⟨N, e2⟩ := u_km_orders hI1 m2
  obtain ⟨e2, -⟩ := e2 (N + 800) (by omega)
  have w : exA hp1 68 = exA hp 68 := by rw [h1]; rfl
  have w3 : exF hp1 67 3 = exF hp 3 0 := by rw [hR.1.1.1.1, h1]; rfl
  rw [e1, e2, w, w3]
  exact orders_pure (vc_of hI hR.1.1 hR.2) (iv_len (k := 32) hI rfl (by decide)) (iv_len (k := 33) hI rfl (by decide)) (iv_len (k := 37) hI rfl (by decide)) (iv_len (k := 39) hI rfl (by decide)) (iv_len (k := 92) hI1 rfl (by decide)) (iv_len (k := 93) hI1 rfl (by decide)) (by omega)
end ANOS
