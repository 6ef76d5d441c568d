/-! the parser's sums: what each method does, and that it ends -/
section PS1
variable {d : Nat} {F : Nat → Nat → Int32} {A : Nat → List Int32} {L : Nat → List Int64} {Q : Option Value → sm_H → Prop}
theorem ie {x y : Int32} : x = y ↔ x.toInt = y.toInt := Int32.toInt_inj.symm
theorem e2 : (2 : Int32).toInt = 2 := rfl
theorem e3 : (3 : Int32).toInt = 3 := rfl
theorem e4 : (4 : Int32).toInt = 4 := rfl
theorem e5 : (5 : Int32).toInt = 5 := rfl
theorem e6 : (6 : Int32).toInt = 6 := rfl
theorem e10 : (10 : Int32).toInt = 10 := rfl
theorem e14 : (14 : Int32).toInt = 14 := rfl
theorem e48 : (48 : Int32).toInt = 48 := rfl
theorem em1 : (-1 : Int32).toInt = -1 := rfl
theorem e0 : (0 : Int32).toInt = 0 := rfl
theorem e1' : (1 : Int32).toInt = 1 := rfl
/-- only these fields of the reference may have changed -/
noncomputable def frF (S : List Nat) (F F' : Nat → Nat → Int32) : Prop := ∀ a b, ¬ (a = 67 ∧ b ∈ S) → F' a b = F a b
noncomputable def frA (S : List Nat) (A A' : Nat → List Int32) : Prop := ∀ k, k ∉ S → A' k = A k
theorem frF_rf {S : List Nat} : frF S F F := fun _ _ _ => rfl
theorem frA_rf {S : List Nat} : frA S A A := fun _ _ => rfl
theorem frF_tr {S S' T : List Nat} {F1 F2 : Nat → Nat → Int32} (h : frF S F F1) (h' : frF S' F1 F2) (h1 : ∀ b ∈ S, b ∈ T) (h2 : ∀ b ∈ S', b ∈ T) : frF T F F2 := fun a b hn => by
  rw [h' a b (fun z => hn ⟨z.1, h2 b z.2⟩), h a b (fun z => hn ⟨z.1, h1 b z.2⟩)]
theorem frA_tr {S S' T : List Nat} {A1 A2 : Nat → List Int32} (h : frA S A A1) (h' : frA S' A1 A2) (h1 : ∀ b ∈ S, b ∈ T) (h2 : ∀ b ∈ S', b ∈ T) : frA T A A2 := fun a hn => by
  rw [h' a (fun z => hn (h2 a z)), h a (fun z => hn (h1 a z))]
theorem frF_u {S : List Nat} {F1 : Nat → Nat → Int32} {j : Nat} {v : Int32} (h : frF S F F1) (hj : j ∈ S) : frF S F (uF F1 67 j v) := fun a b hn => by
  rw [uF_ne (fun z => hn ⟨z.1, by rw [z.2]; exact hj⟩)]
  exact h a b hn
theorem frA_u {S : List Nat} {A1 : Nat → List Int32} {j : Nat} {l : List Int32} (h : frA S A A1) (hj : j ∈ S) : frA S A (uA A1 j l) := fun a hn => by
  rw [uA_ne (fun z => hn (by rw [z]; exact hj))]
  exact h a hn
/-- a number of at most five digits -/
theorem p10 : ∀ j : Nat, j ≤ 4 → (10 : Int) ^ j ≤ 10000 := by decide
theorem r_num_loop {x : Int32} {p0 : Int} (hx : x.toInt = p0) (h0 : 0 ≤ p0) (hA : (A 71).length = 260) : ∀ (m j : Nat) (F : Nat → Nat → Int32), j + m = 5 → (F 67 9).toInt = p0 + j → (F 67 9).toInt ≤ (F 67 10).toInt → (F 67 10).toInt ≤ 240 → 0 ≤ (F 67 12).toInt → (F 67 12).toInt < (10 : Int) ^ j →
    (∀ (r : Int32) (F' : Nat → Nat → Int32), frF [9, 11, 12] F F' → (F 67 9).toInt ≤ (F' 67 9).toInt → (F' 67 9).toInt ≤ (F 67 10).toInt → (r = 0 ∨ (r = 1 ∧ 0 ≤ (F' 67 12).toInt ∧ (F' 67 12).toInt < 100000 ∧ (¬ dV (hV (F 67 9) (F 67 10) (A 71)) = 0 → (F 67 9).toInt < (F' 67 9).toInt))) → Q (some (.int r)) (hz F' A L)) →
    wp_E (d + 2) mm159.2.2.2.2.2.2.2.2 10 [some (.ref 67), some (.int x)] [] (hz F A L) Q := by
  intro m
  induction m with
  | zero =>
    intro j F hj h1 h2 h3 h4 h5 hQ
    obtain rfl : j = 5 := by omega
    have hs : 0 ≤ (F 67 9).toInt ∧ (F 67 10).toInt ≤ ((A 71).length : Int) := ⟨by omega, by omega⟩
    refine g_num ⟨hs, fun z => ?_, fun z => ⟨fun y => ?_, fun y => ?_⟩⟩
    · have h6 : (10 : Int) ^ 5 = 100000 := by decide
      exact hQ 1 F frF_rf (by omega) (by omega) (Or.inr ⟨rfl, h4, by omega, fun q => absurd z q⟩)
    · exfalso
      apply y
      rw [ie, ia (by rw [e5]; omega) (by rw [e5]; omega), e5, hx]
      exact h1
    · exact hQ 0 _ (frF_u frF_rf (by decide)) (Int.le_refl _) h2 (Or.inl rfl)
  | succ m ih =>
    intro j F hj h1 h2 h3 h4 h5 hQ
    have hs : 0 ≤ (F 67 9).toInt ∧ (F 67 10).toInt ≤ ((A 71).length : Int) := ⟨by omega, by omega⟩
    have hB := p10 j (by omega)
    refine g_num ⟨hs, fun z => ?_, fun z => ⟨fun y => ⟨hs, ?_⟩, fun y => ?_⟩⟩
    · exact hQ 1 F frF_rf (by omega) (by omega) (Or.inr ⟨rfl, h4, by omega, fun q => absurd z q⟩)
    · have hd := dV_1 z
      have hlt : (F 67 9).toInt < (F 67 10).toInt := hV_lt (fun q => by rw [q, em1] at hd; omega)
      generalize hc : hV (F 67 9) (F 67 10) (A 71) = c at hd ⊢
      have m1 : (10 * F 67 12).toInt = 10 * (F 67 12).toInt := by
        have := an_mul32 (x := 10) (y := F 67 12) (by rw [e10]; omega) (by rw [e10]; omega)
        rw [this, e10]
      have m2 : (10 * F 67 12 + c).toInt = 10 * (F 67 12).toInt + c.toInt := by rw [ia (by rw [m1]; omega) (by rw [m1]; omega), m1]
      have m3 : (10 * F 67 12 + c - 48).toInt = 10 * (F 67 12).toInt + c.toInt - 48 := by
        rw [an_sub32 (by rw [m2, e48]; omega) (by rw [m2, e48]; omega), m2, e48]
      have m4 : (F 67 9 + 1).toInt = (F 67 9).toInt + 1 := i_1 (by omega)
      have e10j : (10 : Int) ^ (j + 1) = 10 * (10 : Int) ^ j := by rw [Int.pow_succ]; omega
      refine ih (j + 1) (uF (uF F 67 12 (10 * F 67 12 + c - 48)) 67 9 (F 67 9 + 1)) (by omega) ?_ ?_ h3 ?_ ?_ (fun r F' f1 f2 f3 f4 => ?_)
      · show (F 67 9 + 1).toInt = _
        omega
      · show (F 67 9 + 1).toInt ≤ (F 67 10).toInt
        omega
      · show 0 ≤ (10 * F 67 12 + c - 48).toInt
        omega
      · show (10 * F 67 12 + c - 48).toInt < _
        rw [e10j]
        omega
      · have f2 : (F 67 9 + 1).toInt ≤ (F' 67 9).toInt := f2
        have f3 : (F' 67 9).toInt ≤ (F 67 10).toInt := f3
        refine hQ r F' (frF_tr (frF_u (frF_u frF_rf (by decide)) (by decide)) f1 (fun _ z => z) (fun _ z => z)) (by omega) f3 ?_
        rcases f4 with f4 | ⟨f4, f5, f6, -⟩
        · exact Or.inl f4
        · exact Or.inr ⟨f4, f5, f6, fun _ => by omega⟩
    · exact hQ 0 _ (frF_u frF_rf (by decide)) (Int.le_refl _) h2 (Or.inl rfl)
theorem r_num (hA : (A 71).length = 260) (h1 : 0 ≤ (F 67 9).toInt) (h2 : (F 67 9).toInt ≤ (F 67 10).toInt) (h3 : (F 67 10).toInt ≤ 240)
    (hQ : ∀ (r : Int32) (F' : Nat → Nat → Int32), frF [9, 11, 12] F F' → (F 67 9).toInt ≤ (F' 67 9).toInt → (F' 67 9).toInt ≤ (F 67 10).toInt → (r = 0 ∨ (r = 1 ∧ 0 ≤ (F' 67 12).toInt ∧ (F' 67 12).toInt < 100000 ∧ (¬ dV (hV (F 67 9) (F 67 10) (A 71)) = 0 → (F 67 9).toInt < (F' 67 9).toInt))) → Q (some (.int r)) (hz F' A L)) :
    wp_M (d + 3) 159 [.ref 67] (hz F A L) Q := by
  refine q_m (E := mm159) rfl ⟨Nat.le_of_ble_eq_true rfl, Nat.le_of_ble_eq_true rfl⟩ ?_
  show wp_E (d + 2) mm159.2.2.2.2.2.2.2.2 0 [some (.ref 67), none] [] (hz F A L) Q
  refine g_num0 ?_
  refine r_num_loop (x := F 67 9) (p0 := (F 67 9).toInt) rfl h1 hA 5 0 (uF F 67 12 0) rfl ?_ h2 h3 ?_ ?_ (fun r F' f1 f2 f3 f4 => hQ r F' (frF_tr (frF_u frF_rf (by decide)) f1 (fun _ z => z) (fun _ z => z)) f2 f3 f4)
  · show (F 67 9).toInt = (F 67 9).toInt + ((0 : Nat) : Int)
    omega
  · show 0 ≤ (0 : Int32).toInt
    decide
  · show (0 : Int32).toInt < 1
    decide
/-- what waits: operations of sums (2 to 6), opened sums (14) -/
noncomputable def opn (t : List Int32) (i : Nat) : Int := kop (t.getD i 0)
noncomputable def cn (t : List Int32) (b : Nat) : Nat → Nat
  | 0 => 0
  | n + 1 => cn t b n + (if opn t (b + n) = 14 then 0 else 1)
noncomputable def wok (t : List Int32) (b n : Nat) : Prop := (∀ i, i < n → opn t (b + i) = 14 ∨ (2 ≤ opn t (b + i) ∧ opn t (b + i) ≤ 6)) ∧ (b = 0 ∨ ¬ (2 ≤ opn t (b - 1) ∧ opn t (b - 1) ≤ 6))
theorem h_cls {x : Int32} (hs : 0 ≤ (F 67 15).toInt ∧ (F 67 15).toInt ≤ ((A 73).length : Int)) (hk : 0 ≤ (F 67 14).toInt ∧ (F 67 14).toInt < ((A 72).length : Int))
    (hp : (4 ≤ (wV (F 67 15) (A 73)).toInt ∧ (wV (F 67 15) (A 73)).toInt ≤ 6) ∨ (¬ x = 0 ∧ ((wV (F 67 15) (A 73)).toInt = 2 ∨ (wV (F 67 15) (A 73)).toInt = 3)) → wp_E (d + 1) mm163.2.2.2.2.2.2.2.2 0 [some (.ref 67), some (.int x)] [] (hz (uF (uF F 67 14 ((F 67 14) + 1)) 67 15 ((F 67 15) - 1)) (uA A 72 ((A 72).set (F 67 14).toInt.toNat ((1048576 * (wV (F 67 15) (A 73))) + (0)))) L) Q)
    (hq : ¬ ((4 ≤ (wV (F 67 15) (A 73)).toInt ∧ (wV (F 67 15) (A 73)).toInt ≤ 6) ∨ (¬ x = 0 ∧ ((wV (F 67 15) (A 73)).toInt = 2 ∨ (wV (F 67 15) (A 73)).toInt = 3))) → Q none (hz F A L)) : wp_E (d + 1) mm163.2.2.2.2.2.2.2.2 0 [some (.ref 67), some (.int x)] [] (hz F A L) Q := by
  have c2 : (wV (F 67 15) (A 73)) = 2 ↔ (wV (F 67 15) (A 73)).toInt = 2 := by rw [ie, e2]
  have c3 : (wV (F 67 15) (A 73)) = 3 ↔ (wV (F 67 15) (A 73)).toInt = 3 := by rw [ie, e3]
  refine g_cls ⟨hs, fun z => ⟨fun y => ?_, fun y => ⟨hs, fun u => ⟨hs, hk, ?_⟩, fun u => ⟨hs, fun v => ?_, fun v => ⟨hs, hk, ?_⟩⟩⟩⟩, fun z => ⟨hs, fun y => ⟨hs, hk, ?_⟩, fun y => ⟨fun u => ?_, fun u => ⟨hs, fun v => ⟨hs, hk, ?_⟩, fun v => ⟨hs, fun w => ?_, fun w => ⟨hs, hk, ?_⟩⟩⟩⟩⟩⟩
  · rw [e4] at z
    exact hq (fun q => by rcases q with q | q; omega; exact q.1 y)
  · exact hp (Or.inr ⟨y, Or.inl (c2.mp u)⟩)
  · rw [e4] at z
    rw [c2] at u
    rw [c3] at v
    exact hq (fun q => by rcases q with q | q; omega; omega)
  · exact hp (Or.inr ⟨y, Or.inr (c3.mp v)⟩)
  · rw [e4] at z
    rw [e6] at y
    exact hp (Or.inl ⟨z, y⟩)
  · rw [e6] at y
    exact hq (fun q => by rcases q with q | q; omega; exact q.1 u)
  · exact hp (Or.inr ⟨u, Or.inl (c2.mp v)⟩)
  · rw [e6] at y
    rw [c2] at v
    rw [c3] at w
    exact hq (fun q => by rcases q with q | q; omega; omega)
  · exact hp (Or.inr ⟨u, Or.inr (c3.mp w)⟩)
theorem r_cls_loop {x : Int32} {a b : Nat} : ∀ (n : Nat) (F : Nat → Nat → Int32) (A : Nat → List Int32) (k : Nat), (F 67 15).toInt = ((b + n : Nat) : Int) → (F 67 14).toInt = (k : Int) → k + cn (A 73) b n ≤ 250 → b + n ≤ 250 → (A 72).length = 260 → (A 73).length = 260 → wok (A 73) b n → ss (A 72) a k (cn (A 73) b n + 1) →
    (∀ (F' : Nat → Nat → Int32) (A' : Nat → List Int32) (n' : Nat), n' ≤ n → frF [14, 15] F F' → frA [72] A A' → (F' 67 15).toInt = ((b + n' : Nat) : Int) → (F' 67 14).toInt = ((k + (n - n') : Nat) : Int) → (A' 72).length = 260 → ss (A' 72) a (k + (n - n')) (cn (A 73) b n' + 1) → (∀ i, i < k → (A' 72)[i]? = (A 72)[i]?) → (¬ x = 0 → n' = 0 ∨ opn (A 73) (b + n' - 1) = 14) → (∀ i, n' ≤ i → i < n → ¬ opn (A 73) (b + i) = 14) → Q none (hz F' A' L)) →
    wp_E (d + 1) mm163.2.2.2.2.2.2.2.2 0 [some (.ref 67), some (.int x)] [] (hz F A L) Q := by
  intro n
  induction n with
  | zero =>
    intro F A k h1 h2 h3 h4 h5 h6 h7 h8 hQ
    refine h_cls ⟨by omega, by omega⟩ ⟨by omega, by omega⟩ (fun z => ?_) (fun _ => ?_)
    · exfalso
      by_cases hb : b = 0
      · have hw : F 67 15 = 0 := by rw [ie, e0, h1, hb]; rfl
        rw [hw, wV_0, em1] at z
        omega
      · have e := wV_s (w := F 67 15) (t := A 73) (by omega)
        have h9 := h7.2
        rw [show ((F 67 15).toInt - 1).toNat = b - 1 by omega] at e
        have e' : (wV (F 67 15) (A 73)).toInt = opn (A 73) (b - 1) := e
        rcases h9 with h9 | h9
        · exact hb h9
        · rcases z with z | z
          · exact h9 (by omega)
          · exact h9 (by omega)
    · exact hQ F A 0 (Nat.le_refl _) frF_rf frA_rf h1 h2 h5 h8 (fun _ _ => rfl) (fun _ => Or.inl rfl) (fun i i1 i2 => absurd i2 (by omega))
  | succ n ih =>
    intro F A k h1 h2 h3 h4 h5 h6 h7 h8 hQ
    have ew := wV_s (w := F 67 15) (t := A 73) (by omega)
    rw [show ((F 67 15).toInt - 1).toNat = b + n by omega] at ew
    have ew : (wV (F 67 15) (A 73)).toInt = opn (A 73) (b + n) := ew
    have w1 := h7.1 n (by omega)
    refine h_cls ⟨by omega, by omega⟩ ⟨by omega, by omega⟩ (fun z => ?_) (fun z => ?_)
    · have hop : 2 ≤ opn (A 73) (b + n) ∧ opn (A 73) (b + n) ≤ 6 := by
        rcases z with z | z
        · omega
        · omega
      have hc : cn (A 73) b (n + 1) = cn (A 73) b n + 1 := by
        show cn (A 73) b n + (if opn (A 73) (b + n) = 14 then 0 else 1) = _
        rw [if_neg (by omega)]
      obtain ⟨-, c1, c2⟩ := kcode (o := wV (F 67 15) (A 73)) (v := 0) ⟨by omega, by omega⟩ ⟨by decide, by decide⟩
      have k1 : (F 67 14 + 1).toInt = ((k + 1 : Nat) : Int) := by rw [i_1 (by omega), h2]; omega
      have k2 : (F 67 15 - 1).toInt = ((b + n : Nat) : Int) := by rw [i_m1 (by omega), h1]; omega
      rw [show (F 67 14).toInt.toNat = k by omega]
      refine ih (uF (uF F 67 14 (F 67 14 + 1)) 67 15 (F 67 15 - 1)) (uA A 72 ((A 72).set k (1048576 * wV (F 67 15) (A 73) + 0))) (k + 1) k2 k1 (by show k + 1 + cn (A 73) b n ≤ 250; omega) (by omega) (by show ((A 72).set k _).length = 260; rw [List.length_set]; exact h5) h6 ⟨fun i hi => h7.1 i (by omega), h7.2⟩ ?_ (fun F' A' n' f0 f1 f2 f3 f4 f5 f6 f7 f8 f9 => ?_)
      · show ss ((A 72).set k _) a (k + 1) (cn (A 73) b n + 1)
        refine ss_one h8 (by omega) (Or.inr ⟨⟨by rw [c1]; omega, by rw [c1]; omega⟩, by omega, by omega⟩)
      · have f9 : ∀ i, n' ≤ i → i < n → ¬ opn (A 73) (b + i) = 14 := f9
        refine hQ F' A' n' (by omega) (frF_tr (frF_u (frF_u frF_rf (by decide)) (by decide)) f1 (fun _ z => z) (fun _ z => z)) (frA_tr (frA_u frA_rf (by decide)) f2 (fun _ z => z) (fun _ z => z)) f3 (by rw [f4]; omega) f5 (by rw [show k + (n + 1 - n') = k + 1 + (n - n') by omega]; exact f6) (fun i hi => ?_) f8 (fun i i1 i2 => ?_)
        · rw [f7 i (by omega)]
          show ((A 72).set k _)[i]? = _
          exact set_ne (by omega)
        · by_cases e : i = n
          · subst e; omega
          · exact f9 i i1 (by omega)
    · refine hQ F A (n + 1) (Nat.le_refl _) frF_rf frA_rf h1 (by rw [h2]; omega) h5 (by rw [show k + (n + 1 - (n + 1)) = k by omega]; exact h8) (fun _ _ => rfl) (fun hx => Or.inr ?_) (fun i i1 i2 => absurd i2 (by omega))
      rw [show b + (n + 1) - 1 = b + n by omega]
      rcases w1 with w1 | w1
      · exact w1
      · exfalso
        apply z
        by_cases q : 4 ≤ opn (A 73) (b + n)
        · exact Or.inl ⟨by omega, by omega⟩
        · exact Or.inr ⟨hx, by omega⟩
theorem r_cls {x : Int32} {a b n k : Nat} (h1 : (F 67 15).toInt = ((b + n : Nat) : Int)) (h2 : (F 67 14).toInt = (k : Int)) (h3 : k + cn (A 73) b n ≤ 250) (h4 : b + n ≤ 250) (h5 : (A 72).length = 260) (h6 : (A 73).length = 260) (h7 : wok (A 73) b n) (h8 : ss (A 72) a k (cn (A 73) b n + 1))
    (hQ : ∀ (F' : Nat → Nat → Int32) (A' : Nat → List Int32) (n' : Nat), n' ≤ n → frF [14, 15] F F' → frA [72] A A' → (F' 67 15).toInt = ((b + n' : Nat) : Int) → (F' 67 14).toInt = ((k + (n - n') : Nat) : Int) → (A' 72).length = 260 → ss (A' 72) a (k + (n - n')) (cn (A 73) b n' + 1) → (∀ i, i < k → (A' 72)[i]? = (A 72)[i]?) → (¬ x = 0 → n' = 0 ∨ opn (A 73) (b + n' - 1) = 14) → (∀ i, n' ≤ i → i < n → ¬ opn (A 73) (b + i) = 14) → Q none (hz F' A' L)) :
    wp_M (d + 2) 163 [.ref 67, .int x] (hz F A L) Q := by
  refine q_m (E := mm163) rfl ⟨Nat.le_of_ble_eq_true rfl, Nat.le_of_ble_eq_true rfl⟩ ?_
  exact r_cls_loop n F A k h1 h2 h3 h4 h5 h6 h7 h8 hQ
end PS1
