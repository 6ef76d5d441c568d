/-! the run off -/
section RO
variable {d : Nat} {F : Nat → Nat → Int32} {A : Nat → List Int32} {L : Nat → List Int64} {Q : Option Value → sm_H → Prop}
theorem pl_idx {x i : Int32} (hx : 0 ≤ x.toInt ∧ x.toInt ≤ 11) (hi : 0 ≤ i.toInt ∧ i.toInt ≤ 5) : ((72 + (6 * x)) + i).toInt = 72 + 6 * x.toInt + i.toInt := by
  have z6 : (6 : Int32).toInt = 6 := rfl
  have z72 : (72 : Int32).toInt = 72 := rfl
  have e1 : (6 * x).toInt = 6 * x.toInt := by
    have := an_mul32 (x := 6) (y := x) (by rw [z6]; omega) (by rw [z6]; omega)
    rw [this, z6]
  have e2 : (72 + (6 * x)).toInt = 72 + 6 * x.toInt := by rw [ia (by rw [e1, z72]; omega) (by rw [e1, z72]; omega), e1, z72]
  rw [ia (by rw [e2]; omega) (by rw [e2]; omega), e2]
theorem r_hi_loop {x y : Int32} (hx : 0 ≤ x.toInt ∧ x.toInt ≤ 11) (hm : (F 67 3).toInt ≤ 6) (h68 : (A 68).length = 150)
    (hQ : ∀ r : Int32, (r = (-1) ∨ (0 ≤ r.toInt ∧ r.toInt < (F 67 3).toInt)) → (∀ i : Int32, 0 ≤ i.toInt → i.toInt < (F 67 3).toInt → ¬ bV y i = 0 → ¬ r = (-1)) → Q (some (.int r)) (hz F A L)) :
    ∀ (m : Nat) (i b : Int32), (F 67 3).toInt - i.toInt ≤ (m : Int) → 0 ≤ i.toInt → (b = (-1) ∨ (0 ≤ b.toInt ∧ b.toInt < (F 67 3).toInt)) → (∀ j : Int32, 0 ≤ j.toInt → j.toInt < i.toInt → ¬ bV y j = 0 → ¬ b = (-1)) →
    wp_E (d + 1) mm191.2.2.2.2.2.2.2.2 5 [some (.ref 67), some (.int x), some (.int y), some (.int b), some (.int i)] [] (hz F A L) Q := by
  intro m
  induction m with
  | zero =>
    intro i b hmi hi hb hbits
    exact g_hi1 ⟨fun z => hQ b hb (fun j j1 j2 j3 => hbits j j1 (by omega) j3), fun z => absurd z (by omega)⟩
  | succ m ih =>
    intro i b hmi hi hb hbits
    have hi1 : i.toInt < (F 67 3).toInt → (i + 1).toInt = i.toInt + 1 := fun z => i_1 (by omega)
    have same : i.toInt < (F 67 3).toInt → ∀ j : Int32, 0 ≤ j.toInt → j.toInt < (i + 1).toInt → j.toInt < i.toInt ∨ j = i := fun z j j1 j2 => by
      rw [hi1 z] at j2
      by_cases e : j.toInt < i.toInt
      · exact Or.inl e
      · exact Or.inr (by rw [ie]; omega)
    have im : i.toInt < (F 67 3).toInt → ¬ i = (-1) := fun z q => by rw [q, em1] at hi; omega
    refine g_hi1 ⟨fun z => hQ b hb (fun j j1 j2 j3 => hbits j j1 (by omega) j3), fun z => ⟨fun y0 => ?_, fun y1 => ⟨fun bm => ?_, fun bm => ?_⟩⟩⟩
    · refine ih (i + 1) b (by rw [hi1 z]; omega) (by rw [hi1 z]; omega) hb (fun j j1 j2 j3 => ?_)
      rcases same z j j1 j2 with q | q
      · exact hbits j j1 q j3
      · rw [q] at j3; exact absurd y0 j3
    · exact ih (i + 1) i (by rw [hi1 z]; omega) (by rw [hi1 z]; omega) (Or.inr ⟨hi, z⟩) (fun j j1 j2 j3 => im z)
    · have hb2 : 0 ≤ b.toInt ∧ b.toInt < (F 67 3).toInt := by
        rcases hb with q | q
        · exact absurd q bm
        · exact q
      have p1 := pl_idx hx (i := i) ⟨hi, by omega⟩
      have p2 := pl_idx hx (i := b) ⟨hb2.1, by omega⟩
      refine ⟨⟨by omega, by omega⟩, ⟨by omega, by omega⟩, fun _ => ?_, fun _ => ?_⟩
      · exact ih (i + 1) b (by rw [hi1 z]; omega) (by rw [hi1 z]; omega) hb (fun j j1 j2 j3 => bm)
      · exact ih (i + 1) i (by rw [hi1 z]; omega) (by rw [hi1 z]; omega) (Or.inr ⟨hi, z⟩) (fun j j1 j2 j3 => im z)
theorem r_hi {x y : Int32} (hx : 0 ≤ x.toInt ∧ x.toInt ≤ 11) (hm : (F 67 3).toInt ≤ 6) (h68 : (A 68).length = 150)
    (hQ : ∀ r : Int32, (r = (-1) ∨ (0 ≤ r.toInt ∧ r.toInt < (F 67 3).toInt)) → (∀ i : Int32, 0 ≤ i.toInt → i.toInt < (F 67 3).toInt → ¬ bV y i = 0 → ¬ r = (-1)) → Q (some (.int r)) (hz F A L)) : wp_M (d + 2) 191 [.ref 67, .int x, .int y] (hz F A L) Q := by
  refine q_m (E := mm191) rfl ⟨Nat.le_of_ble_eq_true rfl, Nat.le_of_ble_eq_true rfl⟩ ?_
  refine g_hi0 ?_
  exact r_hi_loop hx hm h68 hQ (F 67 3).toInt.toNat 0 (-1) (by rw [e0]; omega) (by decide) (Or.inl rfl) (fun j j1 j2 => absurd j2 (by rw [e0]; omega))
/-- some MEASURE of the set is below many -/
noncomputable def anyB (F : Nat → Nat → Int32) (y : Int32) : Prop := ∃ i : Int32, 0 ≤ i.toInt ∧ i.toInt < (F 67 3).toInt ∧ ¬ bV y i = 0
theorem r_lf_loop {x y : Int32} (hm : (F 67 3).toInt ≤ 6) (hb : anyB F x) : ∀ (m : Nat) (A : Nat → List Int32) (i : Int32) (v : Option Value), 12 - i.toInt ≤ (m : Int) → 0 ≤ i.toInt → (A 68).length = 150 → (A 87).length = 6 → (∀ A', frA [87] A A' → (A' 87).length = 6 → Q none (hz F A' L)) →
    wp_E (d + 2) mm206.2.2.2.2.2.2.2.2 23 [some (.ref 67), some (.int x), some (.int y), some (.int i), v] [] (hz F A L) Q := by
  have z12 : (12 : Int32).toInt = 12 := rfl
  intro m
  induction m with
  | zero =>
    intro A i v hmi hi h68 h87 hQ
    exact g_lf1 ⟨fun _ => hQ A frA_rf h87, fun z => absurd z (by omega)⟩
  | succ m ih =>
    intro A i v hmi hi h68 h87 hQ
    refine g_lf1 ⟨fun _ => hQ A frA_rf h87, fun z => ⟨h68, fun _ => ?_, fun _ => ⟨fun _ => ?_, fun _ => ?_⟩⟩⟩
    · have i1 : (i + 1).toInt = i.toInt + 1 := i_1 (by omega)
      exact ih A (i + 1) v (by omega) (by omega) h68 h87 hQ
    · have i1 : (i + 1).toInt = i.toInt + 1 := i_1 (by omega)
      refine r_hi (x := i) (y := x) ⟨hi, by omega⟩ hm h68 (fun r h1 h2 => ?_)
      show wp_E (d + 2) mm206.2.2.2.2.2.2.2.2 54 [some (.ref 67), some (.int x), some (.int y), some (.int i), v] [.int r] (hz F A L) Q
      obtain ⟨j, j1, j2, j3⟩ := hb
      have hr : 0 ≤ r.toInt ∧ r.toInt < (F 67 3).toInt := by
        rcases h1 with q | q
        · exact absurd q (h2 j j1 j2 j3)
        · exact q
      have p12 : (12 + i).toInt = 12 + i.toInt := by rw [ia (by rw [z12]; omega) (by rw [z12]; omega), z12]
      refine g_lf2 ⟨⟨by omega, by omega⟩, ⟨by omega, by omega⟩, ⟨by omega, by omega⟩, ?_⟩
      exact ih _ (i + 1) _ (by omega) (by omega) h68 (by show ((A 87).set _ _).length = 6; rw [List.length_set]; exact h87) (fun A' f1 f2 => hQ A' (frA_tr (frA_u frA_rf (by decide)) f1 (fun _ z => z) (fun _ z => z)) f2)
    · have i1 : (i + 1).toInt = i.toInt + 1 := i_1 (by omega)
      exact ih A (i + 1) v (by omega) (by omega) h68 h87 hQ
theorem r_lf0 {x y : Int32} : ∀ (m : Nat) (A : Nat → List Int32) (i : Int32), 6 - i.toInt ≤ (m : Int) → 0 ≤ i.toInt → (A 87).length = 6 → (∀ A', frA [87] A A' → (A' 87).length = 6 → wp_E (d + 2) mm206.2.2.2.2.2.2.2.2 23 [some (.ref 67), some (.int x), some (.int y), some (.int 0), none] [] (hz F A' L) Q) →
    wp_E (d + 2) mm206.2.2.2.2.2.2.2.2 2 [some (.ref 67), some (.int x), some (.int y), some (.int i), none] [] (hz F A L) Q := by
  have z6 : (6 : Int32).toInt = 6 := rfl
  intro m
  induction m with
  | zero =>
    intro A i hmi hi h87 hQ
    exact g_lf0 ⟨fun _ => hQ A frA_rf h87, fun z => absurd z (by omega)⟩
  | succ m ih =>
    intro A i hmi hi h87 hQ
    refine g_lf0 ⟨fun _ => hQ A frA_rf h87, fun z => ⟨⟨hi, by omega⟩, ?_⟩⟩
    have i1 : (i + 1).toInt = i.toInt + 1 := i_1 (by omega)
    exact ih _ (i + 1) (by omega) (by omega) (by show ((A 87).set _ _).length = 6; rw [List.length_set]; exact h87) (fun A' f1 f2 => hQ A' (frA_tr (frA_u frA_rf (by decide)) f1 (fun _ z => z) (fun _ z => z)) f2)
theorem r_lf {x y : Int32} (hm : (F 67 3).toInt ≤ 6) (hb : anyB F x) (h68 : (A 68).length = 150) (h87 : (A 87).length = 6) (hQ : ∀ A', frA [87] A A' → (A' 87).length = 6 → Q none (hz F A' L)) : wp_M (d + 3) 206 [.ref 67, .int x, .int y] (hz F A L) Q := by
  refine q_m (E := mm206) rfl ⟨Nat.le_of_ble_eq_true rfl, Nat.le_of_ble_eq_true rfl⟩ ?_
  show wp_E (d + 2) mm206.2.2.2.2.2.2.2.2 0 [some (.ref 67), some (.int x), some (.int y), none, none] [] (hz F A L) Q
  refine q_n 2 (pc1 := 2) (ls1 := [some (.ref 67), some (.int x), some (.int y), some (.int 0), none]) (st1 := []) (hp1 := hz F A L) rfl ?_
  refine r_lf0 6 A 0 (by decide) (by decide) h87 (fun A1 f1 f2 => ?_)
  exact r_lf_loop hm hb 12 A1 0 none (by decide) (by decide) (by rw [f1 68 (by decide)]; exact h68) f2 (fun A' g1 g2 => hQ A' (frA_tr f1 g1 (fun _ z => z) (fun _ z => z)) g2)
/-- sets of at most six, by their numbers -/
noncomputable def pc6 (s : Nat) : Nat := (List.range 6).countP (fun i => s.testBit i)
theorem st_bit : ∀ s, s < 64 → ∀ i, i < 6 → (¬ bV (nI s) (nI i) = 0 ↔ s.testBit i = true) := by decide +kernel
theorem st_clr : ∀ s, s < 64 → ∀ o, o < 6 → s.testBit o = true → (nI s &&& ((1 <<< (nI o &&& 31)) ^^^ (-1))) = nI (s - 2 ^ o) ∧ 2 ^ o ≤ s ∧ pc6 (s - 2 ^ o) + 1 = pc6 s := by decide +kernel
theorem st_all : ∀ m, m < 7 → 2 ≤ m → ((1 : Int32) <<< (nI m &&& 31)) - 1 = nI (2 ^ m - 1) ∧ 2 ^ m - 1 < 2 ^ m ∧ pc6 (2 ^ m - 1) = m ∧ 2 ^ m ≤ 64 := by decide +kernel
theorem st_any : ∀ m, m ≤ 6 → ∀ s, s < 2 ^ m → 1 ≤ pc6 s → ∃ i, i < m ∧ s.testBit i = true := by decide +kernel
theorem ro_nI {i : Int32} (h : 0 ≤ i.toInt) : ∃ n : Nat, i = nI n ∧ i.toInt = (n : Int) := by
  refine ⟨i.toInt.toNat, ?_, by omega⟩
  rw [ie, nI_toInt (by have := an_top i; omega)]
  omega
theorem any_of {m s : Nat} (hm : (F 67 3).toInt = (m : Int)) (hm6 : m ≤ 6) (hs : s < 2 ^ m) (hp : 1 ≤ pc6 s) : ∃ i : Nat, i < m ∧ ¬ bV (nI s) (nI i) = 0 := by
  obtain ⟨i, h1, h2⟩ := st_any m hm6 s hs hp
  have h64 : 2 ^ m ≤ 64 := Nat.pow_le_pow_right (n := 2) (by decide) hm6
  exact ⟨i, h1, (st_bit s (by omega) i (by omega)).mpr h2⟩
theorem r_ro4 {x : Int32} {u v : Option Value} {j : Nat} (hj : j < 6) (hb : ¬ bV x (nI j) = 0) (hQ : ∀ r : Int32, 0 ≤ r.toInt → r.toInt ≤ (j : Int) → Q (some (.int r)) (hz F A L)) : ∀ (m i : Nat), i + m = j → wp_E (d + 3) mm210.2.2.2.2.2.2.2.2 99 [some (.ref 67), some (.int x), some (.int (nI i)), u, v] [] (hz F A L) Q := by
  intro m
  induction m with
  | zero =>
    intro i hi
    obtain rfl : i = j := by omega
    have e := nI_toInt (n := i) (by omega)
    exact g_ro4 ⟨fun _ => hQ _ (by omega) (by omega), fun z => absurd z hb⟩
  | succ m ih =>
    intro i hi
    have e := nI_toInt (n := i) (by omega)
    refine g_ro4 ⟨fun _ => hQ _ (by omega) (by omega), fun _ => ?_⟩
    rw [show nI i + 1 = nI (i + 1) from nI_add i 1]
    exact ih (i + 1) (by omega)
/-- one goes out -/
theorem r_ro3 {m s kk : Nat} {k : Int32} (hm : (F 67 3).toInt = (m : Int)) (hm6 : m ≤ 6) (hs : s < 2 ^ m) (hk : k.toInt = (kk : Int)) (hkk : kk < 6) (hp : 1 ≤ pc6 s) (h87 : (A 87).length = 6) (h89 : (A 89).length = 6)
    (hQ : ∀ (o i : Int32) (s' : Nat), s' < 2 ^ m → pc6 s' + 1 = pc6 s → wp_E (d + 3) mm210.2.2.2.2.2.2.2.2 7 [some (.ref 67), some (.int (nI s')), some (.int (k + 1)), some (.int o), some (.int i)] [] (hz F (uA A 89 ((A 89).set kk o)) L) Q) : ∀ (n : Nat) (i o : Int32), (m : Int) - i.toInt ≤ (n : Int) → 0 ≤ i.toInt → (o = (-1) ∨ ((0 ≤ o.toInt ∧ o.toInt < (m : Int)) ∧ ¬ bV (nI s) o = 0)) → (∀ j : Int32, 0 ≤ j.toInt → j.toInt < i.toInt → ¬ bV (nI s) j = 0 → ¬ o = (-1)) →
    wp_E (d + 3) mm210.2.2.2.2.2.2.2.2 28 [some (.ref 67), some (.int (nI s)), some (.int k), some (.int o), some (.int i)] [] (hz F A L) Q := by
  have h64 : 2 ^ m ≤ 64 := Nat.pow_le_pow_right (n := 2) (by decide) hm6
  have fin : ∀ (i o : Int32), (m : Int) ≤ i.toInt → (o = (-1) ∨ ((0 ≤ o.toInt ∧ o.toInt < (m : Int)) ∧ ¬ bV (nI s) o = 0)) → (∀ j : Int32, 0 ≤ j.toInt → j.toInt < i.toInt → ¬ bV (nI s) j = 0 → ¬ o = (-1)) → (0 ≤ k.toInt ∧ k.toInt < ((A 89).length : Int)) ∧ (wp_E (d + 3) mm210.2.2.2.2.2.2.2.2 7 [some (.ref 67), some (.int ((nI s) &&& ((1 <<< (o &&& 31)) ^^^ (-1)))), some (.int (k + 1)), some (.int o), some (.int i)] [] (hz F (uA A 89 ((A 89).set k.toInt.toNat o)) L) Q) := by
    intro i o hi ho hb
    refine ⟨⟨by omega, by omega⟩, ?_⟩
    obtain ⟨j, j1, j2⟩ := any_of hm hm6 hs hp
    have ho2 : (0 ≤ o.toInt ∧ o.toInt < (m : Int)) ∧ ¬ bV (nI s) o = 0 := by
      rcases ho with q | q
      · have e := nI_toInt (n := j) (by omega)
        exact absurd q (hb (nI j) (by omega) (by omega) j2)
      · exact q
    obtain ⟨n, en, en2⟩ := ro_nI ho2.1.1
    have hbit := (st_bit s (by omega) n (by omega)).mp (by rw [← en]; exact ho2.2)
    obtain ⟨c1, c2, c3⟩ := st_clr s (by omega) n (by omega) hbit
    rw [en, c1, show k.toInt.toNat = kk by omega]
    exact hQ (nI n) i (s - 2 ^ n) (Nat.lt_of_le_of_lt (Nat.sub_le _ _) hs) c3
  intro n
  induction n with
  | zero =>
    intro i o hn hi ho hb
    exact g_ro3 ⟨fun _ => fin i o (by omega) ho hb, fun z => absurd z (by omega)⟩
  | succ n ih =>
    intro i o hn hi ho hb
    have same : i.toInt < (F 67 3).toInt → ∀ j : Int32, 0 ≤ j.toInt → j.toInt < (i + 1).toInt → j.toInt < i.toInt ∨ j = i := fun z j j1 j2 => by
      rw [i_1 (by omega)] at j2
      by_cases e : j.toInt < i.toInt
      · exact Or.inl e
      · exact Or.inr (by rw [ie]; omega)
    have im : ¬ i = (-1) := fun q => by rw [q, em1] at hi; omega
    refine g_ro3 ⟨fun z => fin i o (by omega) ho hb, fun z => ?_⟩
    have i1 : (i + 1).toInt = i.toInt + 1 := i_1 (by omega)
    refine ⟨fun y0 => ?_, fun y1 => ⟨fun _ => ?_, fun om => ?_⟩⟩
    · refine ih (i + 1) o (by omega) (by omega) ho (fun j j1 j2 j3 => ?_)
      rcases same z j j1 j2 with q | q
      · exact hb j j1 q j3
      · rw [q] at j3; exact absurd y0 j3
    · exact ih (i + 1) i (by omega) (by omega) (Or.inr ⟨⟨hi, by omega⟩, y1⟩) (fun j j1 j2 j3 => im)
    · have ho2 : (0 ≤ o.toInt ∧ o.toInt < (m : Int)) ∧ ¬ bV (nI s) o = 0 := by
        rcases ho with q | q
        · exact absurd q om
        · exact q
      refine ⟨⟨by omega, by omega⟩, ⟨by omega, by omega⟩, fun _ => ?_, fun _ => ?_⟩
      · exact ih (i + 1) o (by omega) (by omega) ho (fun j j1 j2 j3 => om)
      · exact ih (i + 1) i (by omega) (by omega) (Or.inr ⟨⟨hi, by omega⟩, y1⟩) (fun j j1 j2 j3 => im)
theorem r_ro_loop {m : Nat} (hm : (F 67 3).toInt = (m : Int)) (hm2 : 2 ≤ m) (hm6 : m ≤ 6) : ∀ (n : Nat) (A : Nat → List Int32) (s kk : Nat) (k : Int32) (u v : Option Value), kk + n + 1 = m → k.toInt = (kk : Int) → s < 2 ^ m → pc6 s = m - kk → (A 68).length = 150 → (A 87).length = 6 → (A 89).length = 6 →
    (∀ (r : Int32) (A' : Nat → List Int32), frA [87, 89] A A' → (A' 87).length = 6 → (A' 89).length = 6 → 0 ≤ r.toInt → r.toInt ≤ 5 → Q (some (.int r)) (hz F A' L)) →
    wp_E (d + 3) mm210.2.2.2.2.2.2.2.2 7 [some (.ref 67), some (.int (nI s)), some (.int k), u, v] [] (hz F A L) Q := by
  intro n
  have em : (F 67 3 - 1).toInt = (m : Int) - 1 := by rw [i_m1 (by omega), hm]
  induction n with
  | zero =>
    intro A s kk k u v hn hk hs hp h68 h87 h89 hQ
    obtain ⟨j, j1, j2⟩ := any_of hm hm6 hs (by omega)
    refine g_ro1 ⟨fun _ => ?_, fun z => absurd z (by omega)⟩
    exact r_ro4 (j := j) (by omega) j2 (fun r r1 r2 => hQ r A frA_rf h87 h89 r1 (by omega)) j 0 (by omega)
  | succ n ih =>
    intro A s kk k u v hn hk hs hp h68 h87 h89 hQ
    refine g_ro1 ⟨fun z => absurd z (by omega), fun _ => ?_⟩
    obtain ⟨j, j1, j2⟩ := any_of hm hm6 hs (by omega)
    have ej := nI_toInt (n := j) (by omega)
    refine r_lf (by omega) ⟨nI j, by omega, by omega, j2⟩ h68 h87 (fun A1 f1 f2 => ?_)
    refine g_ro2 ?_
    have e89 : A1 89 = A 89 := f1 89 (by decide)
    refine r_ro3 (m := m) (s := s) (kk := kk) hm hm6 hs hk (by omega) (by omega) f2 (by rw [e89]; exact h89) (fun o i s' s1 s2 => ?_) m 0 (-1) (by rw [e0]; omega) (by decide) (Or.inl rfl) (fun j j1 j2 => absurd j2 (by rw [e0]; omega))
    refine ih _ s' (kk + 1) (k + 1) _ _ (by omega) (by rw [i_1 (by omega), hk]; omega) s1 (by omega) (by rw [show (uA A1 89 ((A1 89).set kk o)) 68 = A1 68 from rfl, f1 68 (by decide)]; exact h68) f2 (by show ((A1 89).set kk o).length = 6; rw [List.length_set, e89]; exact h89) (fun r A' g1 g2 g3 g4 g5 => hQ r A' (frA_tr (frA_u (frA_tr f1 (frA_rf (S := [])) (by decide) (by decide)) (by decide)) g1 (fun _ z => z) (fun _ z => z)) g2 g3 g4 g5)
theorem r_ro (hm2 : 2 ≤ (F 67 3).toInt) (hm6 : (F 67 3).toInt ≤ 6) (h68 : (A 68).length = 150) (h87 : (A 87).length = 6) (h89 : (A 89).length = 6)
    (hQ : ∀ (r : Int32) (A' : Nat → List Int32), frA [87, 89] A A' → (A' 87).length = 6 → (A' 89).length = 6 → 0 ≤ r.toInt → r.toInt ≤ 5 → Q (some (.int r)) (hz F A' L)) : wp_M (d + 4) 210 [.ref 67] (hz F A L) Q := by
  refine q_m (E := mm210) rfl ⟨Nat.le_of_ble_eq_true rfl, Nat.le_of_ble_eq_true rfl⟩ ?_
  refine g_ro0 ?_
  obtain ⟨m, em, em2⟩ := ro_nI (i := F 67 3) (by omega)
  obtain ⟨c1, c2, c3, c4⟩ := st_all m (by omega) (by omega)
  rw [em, c1]
  exact r_ro_loop em2 (by omega) (by omega) (m - 1) A (2 ^ m - 1) 0 0 none none (by omega) rfl (by omega) (by omega) h68 h87 h89 hQ
end RO
