/-! the next row, lifted, on both sides (printed by 9720.rx.py) -/
theorem gm_1 {n : Nat} {l : List Int32} {p : List Nat} (hn : n ≤ 6) (h : agr l p n) : ∀ (m : Nat) (y : Int32), y.toInt = (m : Int) - 1 → m < n → (km_goesNext_4 l m y).toInt = (nf1 p m : Int) - 1 := by
  intro m
  induction m with
  | zero =>
    intro y hy _
    rw [e0_km_goesNext_4]
    exact hy
  | succ m ih =>
    intro y hy hm
    have a1 := h.2.2 m (by omega)
    have a2 := h.2.2 (m + 1) hm
    have e1 : (1 : Int32).toInt = 1 := rfl
    have y1 : (y + 1).toInt = y.toInt + 1 := by rw [an_add32 (by omega) (by omega), e1]
    have y2 : (y - 1).toInt = y.toInt - 1 := by rw [an_sub32 (by omega) (by omega), e1]
    rw [e_km_goesNext_4, show (y + 1).toInt.toNat = m + 1 by omega, show y.toInt.toNat = m by omega, a1, a2]
    show _ = (((if p.getD (m + 1) 0 < p.getD m 0 then nf1 p m else m + 1) : Nat) : Int) - 1
    by_cases c : p.getD (m + 1) 0 < p.getD m 0
    · rw [if_pos (by omega), if_pos c]
      exact ih (y - 1) (by omega) (by omega)
    · rw [if_neg (by omega), if_neg c]
      omega
theorem gm_2 {n i : Nat} {l : List Int32} {p : List Nat} (hn : n ≤ 6) (h : agr l p n) : ∀ (m j f : Nat), j = i + m → j < n → m < f → km_goesNext_42 l (nI i) f (nI j) = nI (nf2 p (p.getD i 0) j) := by
  intro m
  induction m with
  | zero =>
    intro j f hj hjn hf
    have e2 : nf2 p (p.getD i 0) j = i := by
      rw [hj, Nat.add_zero]
      cases i with
      | zero => rfl
      | succ q => show (if _ then _ else _) = _; rw [if_neg (Nat.lt_irrefl _)]
    rw [e2]
    match f with
    | 0 => rw [e0_km_goesNext_42, hj, Nat.add_zero]
    | f + 1 =>
      rw [e_km_goesNext_42, show j = i by omega, if_neg (by omega)]
  | succ m ih =>
    intro j f hj hjn hf
    obtain ⟨q, rfl⟩ : ∃ q, j = q + 1 := ⟨j - 1, by omega⟩
    obtain ⟨g, rfl⟩ : ∃ g, f = g + 1 := ⟨f - 1, by omega⟩
    have a1 := h.2.2 (q + 1) hjn
    have a2 := h.2.2 i (by omega)
    have d1 : nI (q + 1) - 1 = nI q := by
      have e1 : (1 : Int32).toInt = 1 := rfl
      have e2 := nI_toInt (n := q + 1) (by omega)
      have e3 := nI_toInt (n := q) (by omega)
      refine Int32.toInt_inj.mp ?_
      rw [an_sub32 (by omega) (by omega), e1]
      omega
    rw [e_km_goesNext_42, d1, nJ_ix (n := q + 1) (by omega), nJ_ix (n := i) (by omega), a1, a2]
    show _ = nI (if p.getD (q + 1) 0 < p.getD i 0 then nf2 p (p.getD i 0) q else q + 1)
    by_cases c : p.getD (q + 1) 0 < p.getD i 0
    · rw [if_pos (by omega), if_pos c]
      exact ih q g (by omega) (by omega) (by omega)
    · rw [if_neg (by omega), if_neg c]
theorem gm_3 {n : Nat} (hn : n ≤ 6) : ∀ (m f a b : Nat) (l : List Int32) (p : List Nat), b < n → b ≤ a + 2 * m → m ≤ f → a < 100 → agr l p n → agr (km_goesNext_80 f (nI a) (nI b) l) (nf3 m p a b) n := by
  intro m
  induction m with
  | zero =>
    intro f a b l p hb hm hf ha h
    have ea := nI_toInt (n := a) (by omega)
    have eb := nI_toInt (n := b) (by omega)
    match f with
    | 0 => exact h
    | f + 1 =>
      rw [e_km_goesNext_80, if_neg (by omega)]
      exact h
  | succ m ih =>
    intro f a b l p hb hm hf ha h
    obtain ⟨g, rfl⟩ : ∃ g, f = g + 1 := ⟨f - 1, by omega⟩
    have ea := nI_toInt (n := a) (by omega)
    have eb := nI_toInt (n := b) (by omega)
    rw [e_km_goesNext_80]
    show agr _ (if a < b then nf3 m (nsw p a b) (a + 1) (b - 1) else p) n
    by_cases c : a < b
    · have d1 : nI b + (-1) = nI (b - 1) := by
        have em : (-1 : Int32).toInt = -1 := rfl
        have e3 := nI_toInt (n := b - 1) (by omega)
        refine Int32.toInt_inj.mp ?_
        rw [an_add32 (by omega) (by omega), em]
        omega
      rw [if_pos (by omega), if_pos c, d1, nJ_1 (n := a) (by omega)]
      refine ih g (a + 1) (b - 1) _ _ (by omega) (by omega) (by omega) (by omega) ?_
      unfold km_changes
      rw [nJ_ix (n := a) (by omega), nJ_ix (n := b) (by omega)]
      exact agr_sw h hn (by omega) hb
    · rw [if_neg (by omega), if_neg c]
      exact h
theorem gm_x {n f : Nat} {M : Int32} {l : List Int32} {p : List Nat} (hn : 2 ≤ n ∧ n ≤ 6) (hM : M = nI n) (hf : 6 ≤ f) (h : agr l p n) : (nnx n p = none → (km_goesNext f l M).1 = 0 ∧ (km_goesNext f l M).2 = l) ∧ ∀ p', nnx n p = some p' → (km_goesNext f l M).1 = 1 ∧ agr (km_goesNext f l M).2 p' n := by
  have hk := (by decide +kernel : ∀ n, n < 7 → 2 ≤ n → nI n - 2 = nI (n - 2) ∧ nI n - 1 = nI (n - 1)) n (by omega) hn.1
  have e2 := nI_toInt (n := n - 2) (by omega)
  have q1 := gm_1 hn.2 h (n - 1) (nI (n - 2)) (by omega) (by omega)
  have fu : ((nI (n - 2)).toInt + 1).toNat = n - 1 := by omega
  unfold km_goesNext
  rw [hM, hk.1, hk.2, fu]
  unfold nnx
  have n1 : nf1 p (n - 1) ≤ n - 1 := by
    have z : ∀ m, nf1 p m ≤ m := by
      intro m
      induction m with
      | zero => exact Nat.le_refl _
      | succ m ih =>
        show (if p.getD (m + 1) 0 < p.getD m 0 then nf1 p m else m + 1) ≤ m + 1
        split <;> omega
    exact z (n - 1)
  cases hc : nf1 p (n - 1) with
  | zero =>
    rw [hc] at q1
    rw [if_pos (by omega)]
    exact ⟨fun _ => ⟨rfl, rfl⟩, fun p' z => by cases z⟩
  | succ i =>
    rw [hc] at q1 n1
    have ei : km_goesNext_4 l (n - 1) (nI (n - 2)) = nI i := nJ_of (by omega)
    rw [ei, if_neg (by rw [nI_toInt (n := i) (by omega)]; omega)]
    refine ⟨(fun z => by cases z), fun p' z => ?_⟩
    injection z with z
    subst z
    refine ⟨rfl, ?_⟩
    have q2 := gm_2 hn.2 h (i := i) (n - 1 - i) (n - 1) f (by omega) (by omega) (by omega)
    have nf2l : ∀ x j, nf2 p x j ≤ j := by
      intro x j
      induction j with
      | zero => exact Nat.le_refl _
      | succ j ih =>
        show (if p.getD (j + 1) 0 < x then nf2 p x j else j + 1) ≤ j + 1
        split <;> omega
    have l2 := nf2l (p.getD i 0) (n - 1)
    rw [q2, nJ_1 (n := i) (by omega)]
    refine gm_3 hn.2 6 f (i + 1) (n - 1) _ _ (by omega) (by omega) hf (by omega) ?_
    unfold km_changes
    rw [nJ_ix (n := i) (by omega), nJ_ix (n := nf2 p (p.getD i 0) (n - 1)) (by omega)]
    exact agr_sw h hn.2 (by omega) (by omega)
theorem gv_1 {n : Nat} {l : List Int32} {p : List Nat} (hn : n ≤ 6) (h : agr l p n) : ∀ (m : Nat) (y : Int32), y.toInt = (m : Int) - 1 → m < n → (kv_nextRow_14 l m y).toInt = (nf1 p m : Int) - 1 := by
  intro m
  induction m with
  | zero =>
    intro y hy _
    rw [e0_kv_nextRow_14]
    exact hy
  | succ m ih =>
    intro y hy hm
    have a1 := h.2.2 m (by omega)
    have a2 := h.2.2 (m + 1) hm
    have e1 : (1 : Int32).toInt = 1 := rfl
    have y1 : (y + 1).toInt = y.toInt + 1 := by rw [an_add32 (by omega) (by omega), e1]
    have y2 : (y - 1).toInt = y.toInt - 1 := by rw [an_sub32 (by omega) (by omega), e1]
    rw [e_kv_nextRow_14, ← Int32.sub_eq_add_neg, show (y + 1).toInt.toNat = m + 1 by omega, show y.toInt.toNat = m by omega, a1, a2]
    show _ = (((if p.getD (m + 1) 0 < p.getD m 0 then nf1 p m else m + 1) : Nat) : Int) - 1
    by_cases c : p.getD (m + 1) 0 < p.getD m 0
    · rw [if_pos (by omega), if_pos c]
      exact ih (y - 1) (by omega) (by omega)
    · rw [if_neg (by omega), if_neg c]
      omega
theorem gv_2 {n i : Nat} {l : List Int32} {p : List Nat} (hn : n ≤ 6) (h : agr l p n) : ∀ (m j f : Nat), j = i + m → j < n → m ≤ f → kv_nextRow_49 l (nI i) f (nI j) = nI (nf2 p (p.getD i 0) j) := by
  intro m
  induction m with
  | zero =>
    intro j f hj hjn hf
    have e2 : nf2 p (p.getD i 0) j = i := by
      rw [hj, Nat.add_zero]
      cases i with
      | zero => rfl
      | succ q => show (if _ then _ else _) = _; rw [if_neg (Nat.lt_irrefl _)]
    rw [e2]
    match f with
    | 0 => rw [e0_kv_nextRow_49, hj, Nat.add_zero]
    | f + 1 =>
      rw [e_kv_nextRow_49, show j = i by omega, if_neg (by omega)]
  | succ m ih =>
    intro j f hj hjn hf
    obtain ⟨q, rfl⟩ : ∃ q, j = q + 1 := ⟨j - 1, by omega⟩
    obtain ⟨g, rfl⟩ : ∃ g, f = g + 1 := ⟨f - 1, by omega⟩
    have a1 := h.2.2 (q + 1) hjn
    have a2 := h.2.2 i (by omega)
    have d1 : nI (q + 1) - 1 = nI q := by
      have e1 : (1 : Int32).toInt = 1 := rfl
      have e2 := nI_toInt (n := q + 1) (by omega)
      have e3 := nI_toInt (n := q) (by omega)
      refine Int32.toInt_inj.mp ?_
      rw [an_sub32 (by omega) (by omega), e1]
      omega
    rw [e_kv_nextRow_49, ← Int32.sub_eq_add_neg, d1, nJ_ix (n := q + 1) (by omega), nJ_ix (n := i) (by omega), a1, a2]
    show _ = nI (if p.getD (q + 1) 0 < p.getD i 0 then nf2 p (p.getD i 0) q else q + 1)
    by_cases c : p.getD (q + 1) 0 < p.getD i 0
    · rw [if_pos (by omega), if_pos c]
      exact ih q g (by omega) (by omega) (by omega)
    · rw [if_neg (by omega), if_neg c]
theorem gv_3 {n : Nat} (hn : n ≤ 6) : ∀ (m f a b : Nat) (l : List Int32) (p : List Nat), b < n → b ≤ a + 2 * m → m ≤ f → a < 100 → agr l p n → agr (kv_nextRow_89 f (nI a) (nI b) l) (nf3 m p a b) n := by
  intro m
  induction m with
  | zero =>
    intro f a b l p hb hm hf ha h
    have ea := nI_toInt (n := a) (by omega)
    have eb := nI_toInt (n := b) (by omega)
    match f with
    | 0 => exact h
    | f + 1 =>
      rw [e_kv_nextRow_89, if_neg (by omega)]
      exact h
  | succ m ih =>
    intro f a b l p hb hm hf ha h
    obtain ⟨g, rfl⟩ : ∃ g, f = g + 1 := ⟨f - 1, by omega⟩
    have ea := nI_toInt (n := a) (by omega)
    have eb := nI_toInt (n := b) (by omega)
    rw [e_kv_nextRow_89]
    show agr _ (if a < b then nf3 m (nsw p a b) (a + 1) (b - 1) else p) n
    by_cases c : a < b
    · have d1 : nI b + (-1) = nI (b - 1) := by
        have em : (-1 : Int32).toInt = -1 := rfl
        have e3 := nI_toInt (n := b - 1) (by omega)
        refine Int32.toInt_inj.mp ?_
        rw [an_add32 (by omega) (by omega), em]
        omega
      rw [if_pos (by omega), if_pos c, d1, nJ_1 (n := a) (by omega)]
      refine ih g (a + 1) (b - 1) _ _ (by omega) (by omega) (by omega) (by omega) ?_
      unfold kv_swapInRow
      rw [nJ_ix (n := a) (by omega), nJ_ix (n := b) (by omega)]
      exact agr_sw h hn (by omega) hb
    · rw [if_neg (by omega), if_neg c]
      exact h
theorem gv_x {n f : Nat} {M : Int32} {l : List Int32} {p : List Nat} (hn : 2 ≤ n ∧ n ≤ 6) (hM : M = nI n) (hf : 6 ≤ f) (h : agr l p n) : (nnx n p = none → (kv_nextRow f M l).1 = 0 ∧ (kv_nextRow f M l).2 = l) ∧ ∀ p', nnx n p = some p' → (kv_nextRow f M l).1 = 1 ∧ agr (kv_nextRow f M l).2 p' n := by
  have hk := (by decide +kernel : ∀ n, n < 7 → 2 ≤ n → nI n - 1 - 1 = nI (n - 2) ∧ nI n - 1 = nI (n - 1)) n (by omega) hn.1
  have e2 := nI_toInt (n := n - 2) (by omega)
  have q1 := gv_1 hn.2 h (n - 1) (nI (n - 2)) (by omega) (by omega)
  have fu : ((nI (n - 2)).toInt + 1).toNat = n - 1 := by omega
  unfold kv_nextRow
  rw [hM, hk.1, hk.2, fu]
  unfold nnx
  have n1 : nf1 p (n - 1) ≤ n - 1 := by
    have z : ∀ m, nf1 p m ≤ m := by
      intro m
      induction m with
      | zero => exact Nat.le_refl _
      | succ m ih =>
        show (if p.getD (m + 1) 0 < p.getD m 0 then nf1 p m else m + 1) ≤ m + 1
        split <;> omega
    exact z (n - 1)
  cases hc : nf1 p (n - 1) with
  | zero =>
    rw [hc] at q1
    rw [if_pos (by omega)]
    exact ⟨fun _ => ⟨rfl, rfl⟩, fun p' z => by cases z⟩
  | succ i =>
    rw [hc] at q1 n1
    have ei : kv_nextRow_14 l (n - 1) (nI (n - 2)) = nI i := nJ_of (by omega)
    rw [ei, if_neg (by rw [nI_toInt (n := i) (by omega)]; omega)]
    refine ⟨(fun z => by cases z), fun p' z => ?_⟩
    injection z with z
    subst z
    refine ⟨rfl, ?_⟩
    have q2 := gv_2 hn.2 h (i := i) (n - 1 - i) (n - 1) ((nI (n - 1)).toInt - (nI i).toInt).toNat (by omega) (by omega) (by rw [nI_toInt (n := n - 1) (by omega), nI_toInt (n := i) (by omega)]; omega)
    have nf2l : ∀ x j, nf2 p x j ≤ j := by
      intro x j
      induction j with
      | zero => exact Nat.le_refl _
      | succ j ih =>
        show (if p.getD (j + 1) 0 < x then nf2 p x j else j + 1) ≤ j + 1
        split <;> omega
    have l2 := nf2l (p.getD i 0) (n - 1)
    rw [q2, nJ_1 (n := i) (by omega)]
    refine gv_3 hn.2 6 f (i + 1) (n - 1) _ _ (by omega) (by omega) hf (by omega) ?_
    unfold kv_swapInRow
    rw [nJ_ix (n := i) (by omega), nJ_ix (n := nf2 p (p.getD i 0) (n - 1)) (by omega)]
    exact agr_sw h hn.2 (by omega) (by omega)
