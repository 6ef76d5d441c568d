/-! pairs; rows and the next row -/
section RW
variable {d : Nat} {F : Nat → Nat → Int32} {A : Nat → List Int32} {L : Nat → List Int64} {Q : Option Value → sm_H → Prop}
theorem r_pa_loop {x y : Int32} (hx : 0 ≤ x.toInt ∧ x.toInt ≤ 5) (hy : 0 ≤ y.toInt ∧ y.toInt ≤ 5) (h68 : (A 68).length = 150) (hQ : ∀ r : Int32, Q (some (.int r)) (hz F A L)) : ∀ (m : Nat) (i n : Int32), 12 - i.toInt ≤ (m : Int) → 0 ≤ i.toInt → wp_E (d + 2) mm203.2.2.2.2.2.2.2.2 5 [some (.ref 67), some (.int x), some (.int y), some (.int n), some (.int i)] [] (hz F A L) Q := by
  have z12 : (12 : Int32).toInt = 12 := rfl
  intro m
  induction m with
  | zero => intro i n hm hi; exact g_pa ⟨fun _ => hQ n, fun z => absurd z (by omega)⟩
  | succ m ih =>
    intro i n hm hi
    refine g_pa ⟨fun _ => hQ n, fun z => ?_⟩
    have i1 : (i + 1).toInt = i.toInt + 1 := i_1 (by omega)
    have q1 := pl_idx (x := i) (i := x) ⟨hi, by omega⟩ hx
    have q2 := pl_idx (x := i) (i := y) ⟨hi, by omega⟩ hy
    have p12 : (12 + i).toInt = 12 + i.toInt := by rw [ia (by rw [z12]; omega) (by rw [z12]; omega), z12]
    exact ⟨h68, fun _ => ih (i + 1) n (by omega) (by omega), fun _ => ⟨⟨by omega, by omega⟩, ⟨by omega, by omega⟩, fun _ => ih (i + 1) n (by omega) (by omega), fun _ => ⟨⟨by omega, by omega⟩, ih (i + 1) _ (by omega) (by omega)⟩⟩⟩
theorem r_pa {x y : Int32} (hx : 0 ≤ x.toInt ∧ x.toInt ≤ 5) (hy : 0 ≤ y.toInt ∧ y.toInt ≤ 5) (h68 : (A 68).length = 150) (hQ : ∀ r : Int32, Q (some (.int r)) (hz F A L)) : wp_M (d + 3) 203 [.ref 67, .int x, .int y] (hz F A L) Q := by
  refine q_m (E := mm203) rfl ⟨Nat.le_of_ble_eq_true rfl, Nat.le_of_ble_eq_true rfl⟩ ?_
  show wp_E (d + 2) mm203.2.2.2.2.2.2.2.2 0 [some (.ref 67), some (.int x), some (.int y), none, none] [] (hz F A L) Q
  refine q_n 4 (pc1 := 5) (ls1 := [some (.ref 67), some (.int x), some (.int y), some (.int 0), some (.int 0)]) (st1 := []) (hp1 := hz F A L) rfl ?_
  exact r_pa_loop hx hy h68 hQ 12 0 0 (by decide) (by decide)
theorem r_be {x y : Int32} (hx : 0 ≤ x.toInt ∧ x.toInt ≤ 5) (hy : 0 ≤ y.toInt ∧ y.toInt ≤ 5) (h68 : (A 68).length = 150) (hQ : ∀ r : Int32, Q (some (.int r)) (hz F A L)) : wp_M (d + 4) 213 [.ref 67, .int x, .int y] (hz F A L) Q := by
  refine q_m (E := mm213) rfl ⟨Nat.le_of_ble_eq_true rfl, Nat.le_of_ble_eq_true rfl⟩ ?_
  refine g_be0 (r_pa hx hy h68 (fun r => ?_))
  refine g_be1 (r_pa hy hx h68 (fun s => ?_))
  exact g_be2 ⟨fun _ => hQ 0, fun _ => hQ 1⟩
theorem r_wi {x y : Int32} (hx : 0 ≤ x.toInt ∧ x.toInt ≤ 5) (hy : 0 ≤ y.toInt ∧ y.toInt ≤ 5) (h68 : (A 68).length = 150) (hQ : ∀ r : Int32, 0 ≤ r.toInt → r.toInt ≤ 5 → Q (some (.int r)) (hz F A L)) : wp_M (d + 5) 222 [.ref 67, .int x, .int y] (hz F A L) Q := by
  refine q_m (E := mm222) rfl ⟨Nat.le_of_ble_eq_true rfl, Nat.le_of_ble_eq_true rfl⟩ ?_
  refine g_wi0 (r_be hy hx h68 (fun r => ?_))
  exact g_wi1 ⟨fun _ => hQ x hx.1 hx.2, fun _ => hQ y hy.1 hy.2⟩
/-- the next row, on numbers -/
noncomputable def nf1 (p : List Nat) : Nat → Nat
  | 0 => 0
  | i + 1 => if p.getD (i + 1) 0 < p.getD i 0 then nf1 p i else i + 1
noncomputable def nf2 (p : List Nat) (x : Nat) : Nat → Nat
  | 0 => 0
  | j + 1 => if p.getD (j + 1) 0 < x then nf2 p x j else j + 1
noncomputable def nsw (p : List Nat) (a b : Nat) : List Nat := (p.set a (p.getD b 0)).set b (p.getD a 0)
noncomputable def nf3 : Nat → List Nat → Nat → Nat → List Nat
  | 0, p, _, _ => p
  | m + 1, p, a, b => if a < b then nf3 m (nsw p a b) (a + 1) (b - 1) else p
noncomputable def nnx (n : Nat) (p : List Nat) : Option (List Nat) := match nf1 p (n - 1) with
  | 0 => none
  | i + 1 => some (nf3 6 (nsw p i (nf2 p (p.getD i 0) (n - 1))) (i + 1) (n - 1))
noncomputable def agr (l : List Int32) (p : List Nat) (n : Nat) : Prop := l.length = 6 ∧ p.length = 6 ∧ ∀ i, i < n → (l.getD i 0).toInt = ((p.getD i 0 : Nat) : Int)
theorem gd_set {α : Type} {l : List α} {a i : Nat} {x z : α} (ha : a < l.length) : (l.set a x).getD i z = if i = a then x else l.getD i z := by
  rw [List.getD_eq_getElem?_getD, List.getElem?_set]
  by_cases e : a = i
  · subst e
    rw [if_pos rfl, if_pos ha, if_pos rfl]
    rfl
  · rw [if_neg e, if_neg (fun z => e z.symm), List.getD_eq_getElem?_getD]
theorem agr_sw {l : List Int32} {p : List Nat} {n a b : Nat} (h : agr l p n) (hn : n ≤ 6) (ha : a < n) (hb : b < n) : agr ((l.set a (l.getD b 0)).set b (l.getD a 0)) (nsw p a b) n := by
  obtain ⟨h1, h2, h3⟩ := h
  refine ⟨by rw [List.length_set, List.length_set]; exact h1, by unfold nsw; rw [List.length_set, List.length_set]; exact h2, fun i hi => ?_⟩
  unfold nsw
  rw [gd_set (l := l.set a (l.getD b 0)) (by rw [List.length_set]; omega), gd_set (l := p.set a (p.getD b 0)) (by rw [List.length_set]; omega), gd_set (l := l) (by omega), gd_set (l := p) (by omega)]
  split
  · exact h3 a ha
  · split
    · exact h3 b hb
    · exact h3 i hi
theorem sw_len {l : List Int32} {a b : Nat} {x y : Int32} (h : l.length = 6) : ((l.set a x).set b y).length = 6 := by rw [List.length_set, List.length_set]; exact h
theorem r_gn2 {x i j : Int32} {n : Nat} (hn : n ≤ 6) : ∀ (m : Nat) (A : Nat → List Int32) (p : List Nat) (a b : Int32) (a' b' : Nat), a.toInt = (a' : Int) → b.toInt = (b' : Int) → b' < n → b' ≤ a' + 2 * m → agr (A 92) p n →
    (∀ A' : Nat → List Int32, frA [92] A A' → agr (A' 92) (nf3 m p a' b') n → Q (some (.int 1)) (hz F A' L)) →
    wp_E (d + 1) mm226.2.2.2.2.2.2.2.2 80 [some (.ref 67), some (.int x), some (.int i), some (.int j), some (.int a), some (.int b)] [] (hz F A L) Q := by
  intro m
  induction m with
  | zero =>
    intro A p a b a' b' ha hb hbn hm hag hQ
    exact g_gn2 ⟨fun _ => hQ A frA_rf hag, fun z => absurd z (by omega)⟩
  | succ m ih =>
    intro A p a b a' b' ha hb hbn hm hag hQ
    have h6 := hag.1
    by_cases hab : a' < b'
    · have hQ' : ∀ A' : Nat → List Int32, frA [92] A A' → agr (A' 92) (nf3 m (nsw p a' b') (a' + 1) (b' - 1)) n → Q (some (.int 1)) (hz F A' L) := fun A' f1 f2 => hQ A' f1 (by
        show agr (A' 92) (if a' < b' then nf3 m (nsw p a' b') (a' + 1) (b' - 1) else p) n
        rw [if_pos hab]
        exact f2)
      refine g_gn2 ⟨fun z => absurd z (by omega), fun _ => ⟨⟨by omega, by omega⟩, ⟨by omega, by omega⟩, ⟨by omega, by omega⟩, ⟨by omega, by rw [List.length_set]; omega⟩, ?_⟩⟩
      rw [show a.toInt.toNat = a' by omega, show b.toInt.toNat = b' by omega]
      refine ih _ (nsw p a' b') (a + 1) (b + (-1)) (a' + 1) (b' - 1) (by rw [i_1 (by omega), ha]; omega) ?_ (by omega) (by omega) (agr_sw hag hn (by omega) hbn) (fun A' f1 f2 => hQ' A' (frA_tr (frA_u (frA_u frA_rf (by decide)) (by decide)) f1 (fun _ z => z) (fun _ z => z)) f2)
      rw [ia (by rw [em1]; omega) (by rw [em1]; omega), em1, hb]
      omega
    · have e : nf3 (m + 1) p a' b' = p := if_neg hab
      rw [e] at hQ
      exact g_gn2 ⟨fun _ => hQ A frA_rf hag, fun z => absurd z (by omega)⟩
theorem r_gn1 {x i : Int32} {n i' : Nat} {p : List Nat} (hn : n ≤ 6) (hx : x.toInt = (n : Int)) (hi : i.toInt = (i' : Int)) (hin : i' + 1 < n) (hag : agr (A 92) p n) (hQ : ∀ A' : Nat → List Int32, frA [92] A A' → agr (A' 92) (nf3 6 (nsw p i' (nf2 p (p.getD i' 0) (n - 1))) (i' + 1) (n - 1)) n → Q (some (.int 1)) (hz F A' L)) : ∀ (m : Nat) (j : Int32) (j' : Nat), j.toInt = (j' : Int) → i' + m = j' → j' < n → nf2 p (p.getD i' 0) (n - 1) = nf2 p (p.getD i' 0) j' →
    wp_E (d + 1) mm226.2.2.2.2.2.2.2.2 42 [some (.ref 67), some (.int x), some (.int i), some (.int j), none, none] [] (hz F A L) Q := by
  have h6 := hag.1
  have fin : ∀ (j : Int32) (j' : Nat), j.toInt = (j' : Int) → j' < n → nf2 p (p.getD i' 0) (n - 1) = j' → (0 ≤ i.toInt ∧ i.toInt < ((A 92).length : Int)) ∧ ((0 ≤ j.toInt ∧ j.toInt < ((A 92).length : Int)) ∧ ((0 ≤ i.toInt ∧ i.toInt < ((A 92).length : Int)) ∧ ((0 ≤ j.toInt ∧ j.toInt < (((A 92).set i.toInt.toNat ((A 92).getD j.toInt.toNat 0)).length : Int)) ∧ (wp_E (d + 1) mm226.2.2.2.2.2.2.2.2 80 [some (.ref 67), some (.int x), some (.int i), some (.int j), some (.int (i + 1)), some (.int (x - 1))] [] (hz F (uA (uA A 92 ((A 92).set i.toInt.toNat ((A 92).getD j.toInt.toNat 0))) 92 (((A 92).set i.toInt.toNat ((A 92).getD j.toInt.toNat 0)).set j.toInt.toNat ((A 92).getD i.toInt.toNat 0))) L) Q)))) := by
    intro j j' hj hjn he
    refine ⟨⟨by omega, by omega⟩, ⟨by omega, by omega⟩, ⟨by omega, by omega⟩, ⟨by omega, by rw [List.length_set]; omega⟩, ?_⟩
    rw [show i.toInt.toNat = i' by omega, show j.toInt.toNat = j' by omega]
    rw [he] at hQ
    exact r_gn2 hn 6 _ (nsw p i' j') (i + 1) (x - 1) (i' + 1) (n - 1) (by rw [i_1 (by omega), hi]; omega) (by rw [i_m1 (by omega), hx]; omega) (by omega) (by omega) (agr_sw hag hn (by omega) hjn) (fun A' f1 f2 => hQ A' (frA_tr (frA_u (frA_u frA_rf (by decide)) (by decide)) f1 (fun _ z => z) (fun _ z => z)) f2)
  intro m
  induction m with
  | zero =>
    intro j j' hj hm hjn he
    obtain rfl : i' = j' := by omega
    have e2 : nf2 p (p.getD i' 0) i' = i' := by
      cases hc : i' with
      | zero => rfl
      | succ q => show (if _ then _ else _) = _; rw [if_neg (Nat.lt_irrefl _)]
    refine g_gn1 ⟨⟨by omega, by omega⟩, ⟨by omega, by omega⟩, fun _ => fin j i' hj hjn (he.trans e2), fun z => absurd z ?_⟩
    rw [show j.toInt.toNat = i' by omega, show i.toInt.toNat = i' by omega]
    omega
  | succ m ih =>
    intro j j' hj hm hjn he
    have hj1 : j' = (j' - 1) + 1 := by omega
    have a1 := hag.2.2 j' hjn
    have a2 := hag.2.2 i' (by omega)
    refine g_gn1 ⟨⟨by omega, by omega⟩, ⟨by omega, by omega⟩, fun z => fin j j' hj hjn ?_, fun z => ?_⟩
    · rw [show j.toInt.toNat = j' by omega, show i.toInt.toNat = i' by omega, a1, a2] at z
      rw [he, hj1]
      show (if _ then _ else _) = _
      rw [if_neg (by rw [← hj1]; omega)]
    · rw [show j.toInt.toNat = j' by omega, show i.toInt.toNat = i' by omega, a1, a2] at z
      refine ih (j - 1) (j' - 1) (by rw [i_m1 (by omega), hj]; omega) (by omega) (by omega) ?_
      rw [he]
      rw [hj1]
      show (if _ then _ else _) = _
      rw [if_pos (by rw [← hj1]; omega), show j' - 1 + 1 - 1 = j' - 1 by omega]
theorem r_gn {x : Int32} {n : Nat} {p : List Nat} (hn : n ≤ 6) (hn2 : 2 ≤ n) (hx : x.toInt = (n : Int)) (hag : agr (A 92) p n) (hQ0 : nnx n p = none → Q (some (.int 0)) (hz F A L)) (hQ1 : ∀ p', nnx n p = some p' → ∀ A' : Nat → List Int32, frA [92] A A' → agr (A' 92) p' n → Q (some (.int 1)) (hz F A' L)) : wp_M (d + 2) 226 [.ref 67, .int x] (hz F A L) Q := by
  have h6 := hag.1
  refine q_m (E := mm226) rfl ⟨Nat.le_of_ble_eq_true rfl, Nat.le_of_ble_eq_true rfl⟩ ?_
  show wp_E (d + 1) mm226.2.2.2.2.2.2.2.2 0 [some (.ref 67), some (.int x), none, none, none, none] [] (hz F A L) Q
  refine q_n 4 (pc1 := 4) (ls1 := [some (.ref 67), some (.int x), some (.int (x - 2)), none, none, none]) (st1 := []) (hp1 := hz F A L) rfl ?_
  have loop : ∀ (m : Nat) (i : Int32), i.toInt = (m : Int) - 1 → m < n → nf1 p (n - 1) = nf1 p m → wp_E (d + 1) mm226.2.2.2.2.2.2.2.2 4 [some (.ref 67), some (.int x), some (.int i), none, none, none] [] (hz F A L) Q := by
    intro m
    induction m with
    | zero =>
      intro i hi hm he
      have e0' : nnx n p = none := by
        unfold nnx
        rw [he]
        rfl
      exact g_gn0 ⟨fun _ => ⟨fun z => absurd z (by omega), fun _ => hQ0 e0'⟩, fun z => absurd z (by omega)⟩
    | succ m ih =>
      intro i hi hm he
      have a1 := hag.2.2 m (by omega)
      have a2 := hag.2.2 (m + 1) hm
      have i1 : (i + 1).toInt = ((m + 1 : Nat) : Int) := by rw [i_1 (by omega), hi]; omega
      refine g_gn0 ⟨fun z => absurd z (by omega), fun _ => ⟨⟨by omega, by omega⟩, ⟨by omega, by omega⟩, fun z => ⟨fun _ => ?_, fun q => absurd q (by omega)⟩, fun z => ?_⟩⟩
      · rw [show i.toInt.toNat = m by omega, show (i + 1).toInt.toNat = m + 1 by omega, a1, a2] at z
        have e1 : nf1 p (n - 1) = m + 1 := by
          rw [he]
          show (if _ then _ else _) = _
          rw [if_neg (by omega)]
        refine r_gn1 (i' := m) hn hx (by omega) hm hag (fun A' f1 f2 => hQ1 _ ?_ A' f1 f2) (n - 1 - m) (x - 1) (n - 1) (by rw [i_m1 (by omega), hx]; omega) (by omega) (by omega) rfl
        unfold nnx
        rw [e1]
      · rw [show i.toInt.toNat = m by omega, show (i + 1).toInt.toNat = m + 1 by omega, a1, a2] at z
        refine ih (i - 1) (by rw [i_m1 (by omega), hi]; omega) (by omega) ?_
        rw [he]
        show (if _ then _ else _) = _
        rw [if_pos (by omega)]
  have x2 : (x - 2).toInt = (n : Int) - 2 := by rw [an_sub32 (by rw [e2]; omega) (by rw [e2]; omega), e2, hx]
  exact loop (n - 1) (x - 2) (by omega) (by omega) rfl
/-- beginsRows, keepsRow -/
noncomputable def row0 : List Nat := [0, 1, 2, 3, 4, 5]
theorem row0_gd : ∀ i, i < 6 → row0.getD i 0 = i := by decide
theorem r_br {n : Nat} (hn : n ≤ 6) (hm : (F 67 3).toInt = (n : Int)) (h92 : (A 92).length = 6) (hQ : ∀ A' : Nat → List Int32, frA [92] A A' → agr (A' 92) row0 n → Q none (hz F A' L)) : wp_M (d + 1) 224 [.ref 67] (hz F A L) Q := by
  refine q_m (E := mm224) rfl ⟨Nat.le_of_ble_eq_true rfl, Nat.le_of_ble_eq_true rfl⟩ ?_
  show wp_E (d + 0) mm224.2.2.2.2.2.2.2.2 0 [some (.ref 67), none] [] (hz F A L) Q
  refine q_n 2 (pc1 := 2) (ls1 := [some (.ref 67), some (.int 0)]) (st1 := []) (hp1 := hz F A L) rfl ?_
  have loop : ∀ (m : Nat) (A1 : Nat → List Int32) (i : Int32) (j : Nat), i.toInt = (j : Int) → j + m = n → frA [92] A A1 → (A1 92).length = 6 → (∀ q, q < j → ((A1 92).getD q 0).toInt = (q : Int)) → wp_E (d + 0) mm224.2.2.2.2.2.2.2.2 2 [some (.ref 67), some (.int i)] [] (hz F A1 L) Q := by
    intro m
    induction m with
    | zero =>
      intro A1 i j hi hj hf hl hq
      refine g_br ⟨fun _ => hQ A1 hf ⟨hl, rfl, fun q hq' => by rw [hq q (by omega), row0_gd q (by omega)]⟩, fun z => absurd z (by omega)⟩
    | succ m ih =>
      intro A1 i j hi hj hf hl hq
      refine g_br ⟨fun z => absurd z (by omega), fun _ => ⟨⟨by omega, by omega⟩, ?_⟩⟩
      rw [show i.toInt.toNat = j by omega]
      refine ih _ (i + 1) (j + 1) (by rw [i_1 (by omega), hi]; omega) (by omega) (frA_u hf (by decide)) (by show ((A1 92).set j i).length = 6; rw [List.length_set]; exact hl) (fun q hq' => ?_)
      show (((A1 92).set j i).getD q 0).toInt = _
      rw [gd_set (by omega)]
      split
      · omega
      · exact hq q (by omega)
  exact loop n A 0 0 rfl (by omega) frA_rf h92 (fun q hq => absurd hq (by omega))
theorem r_kr {n : Nat} {p : List Nat} (hn : n ≤ 6) (hm : (F 67 3).toInt = (n : Int)) (h92 : (A 92).length = 6) (h93 : (A 93).length = 6) (hQ : ∀ A' : Nat → List Int32, frA [93] A A' → (A' 93).length = 6 → (∀ i, i < 6 → (A' 93).getD i 0 = (A 93).getD i 0 ∨ (i < n ∧ (A' 93).getD i 0 = (A 92).getD i 0)) → Q none (hz F A' L)) : wp_M (d + 1) 225 [.ref 67] (hz F A L) Q := by
  refine q_m (E := mm225) rfl ⟨Nat.le_of_ble_eq_true rfl, Nat.le_of_ble_eq_true rfl⟩ ?_
  show wp_E (d + 0) mm225.2.2.2.2.2.2.2.2 0 [some (.ref 67), none] [] (hz F A L) Q
  refine q_n 2 (pc1 := 2) (ls1 := [some (.ref 67), some (.int 0)]) (st1 := []) (hp1 := hz F A L) rfl ?_
  have loop : ∀ (m : Nat) (A1 : Nat → List Int32) (i : Int32) (j : Nat), i.toInt = (j : Int) → j + m = n → frA [93] A A1 → (A1 93).length = 6 → (∀ i, i < 6 → (A1 93).getD i 0 = (A 93).getD i 0 ∨ (i < n ∧ (A1 93).getD i 0 = (A 92).getD i 0)) → wp_E (d + 0) mm225.2.2.2.2.2.2.2.2 2 [some (.ref 67), some (.int i)] [] (hz F A1 L) Q := by
    intro m
    induction m with
    | zero =>
      intro A1 i j hi hj hf hl hq
      exact g_kr ⟨fun _ => hQ A1 hf hl hq, fun z => absurd z (by omega)⟩
    | succ m ih =>
      intro A1 i j hi hj hf hl hq
      have e92 : A1 92 = A 92 := hf 92 (by decide)
      refine g_kr ⟨fun z => absurd z (by omega), fun _ => ⟨⟨by omega, by rw [e92]; omega⟩, ⟨by omega, by omega⟩, ?_⟩⟩
      rw [show i.toInt.toNat = j by omega]
      refine ih _ (i + 1) (j + 1) (by rw [i_1 (by omega), hi]; omega) (by omega) (frA_u hf (by decide)) (by show ((A1 93).set j _).length = 6; rw [List.length_set]; exact hl) (fun q hq' => ?_)
      show ((A1 93).set j _).getD q 0 = _ ∨ (_ ∧ ((A1 93).set j _).getD q 0 = _)
      rw [gd_set (by omega)]
      split
      · rename_i e
        subst e
        exact Or.inr ⟨by omega, by rw [e92]⟩
      · exact hq q hq'
  exact loop n A 0 0 rfl (by omega) frA_rf h93 (fun i _ => Or.inl rfl)
/-- the rows end -/
noncomputable def rn (n : Nat) : Nat → List Nat → Bool
  | 0, _ => false
  | k + 1, p => (List.range n).all (fun i => Nat.blt (p.getD i 0) n) && (match nnx n p with
    | none => true
    | some q => rn n k q)
set_option maxRecDepth 100000 in
theorem rn_ok : ∀ n, n < 7 → 2 ≤ n → rn n 721 row0 = true := by decide +kernel
theorem rn_b {n k : Nat} {p : List Nat} (h : rn n (k + 1) p = true) : (∀ i, i < n → p.getD i 0 < n) ∧ ∀ q, nnx n p = some q → rn n k q = true := by
  have h : ((List.range n).all (fun i => Nat.blt (p.getD i 0) n) && (match nnx n p with
    | none => true
    | some q => rn n k q)) = true := h
  rw [Bool.and_eq_true] at h
  refine ⟨fun i hi => ?_, fun q hq => ?_⟩
  · exact Nat.blt_eq.mp (List.all_eq_true.mp h.1 i (List.mem_range.mpr hi))
  · have h2 := h.2
    rw [hq] at h2
    exact h2
end RW
