/-! pieces of codes, as the reference's parser makes them -/
noncomputable abbrev kop (c : Int32) : Int := c.toInt.tdiv 1048576
noncomputable abbrev kvl (c : Int32) : Int := c.toInt.tmod 1048576
noncomputable def psh (c : Int32) : Prop := kop c = 0 ∨ (kop c = 1 ∧ 0 ≤ kvl c ∧ kvl c < 8)
noncomputable def bnr (c : Int32) : Prop := 2 ≤ kop c ∧ kop c ≤ 9
noncomputable def cst (l : List Int32) (dep : Nat → Nat) (k : Nat) : Prop := ∃ c, l[k]? = some c ∧ ((psh c ∧ dep (k + 1) = dep k + 1) ∨ (bnr c ∧ 2 ≤ dep k ∧ dep (k + 1) + 1 = dep k))
/-- a piece without jumps, its stack's height from 0 to m -/
noncomputable def ss (l : List Int32) (a b m : Nat) : Prop := a ≤ b ∧ ∃ dep : Nat → Nat, dep a = 0 ∧ dep b = m ∧ ∀ k, a ≤ k → k < b → cst l dep k
theorem ss_nil (l : List Int32) (a : Nat) : ss l a a 0 := ⟨Nat.le_refl _, fun _ => 0, rfl, rfl, fun k h1 h2 => absurd h2 (by omega)⟩
theorem ss_ext {l l' : List Int32} {a b m : Nat} (h : ss l a b m) (he : ∀ k, a ≤ k → k < b → l'[k]? = l[k]?) : ss l' a b m := by
  obtain ⟨h1, dep, h2, h3, h4⟩ := h
  refine ⟨h1, dep, h2, h3, fun k k1 k2 => ?_⟩
  obtain ⟨c, c1, c2⟩ := h4 k k1 k2
  exact ⟨c, by rw [he k k1 k2]; exact c1, c2⟩
theorem set_ne {l : List Int32} {b k : Nat} {c : Int32} (h : k ≠ b) : (l.set b c)[k]? = l[k]? := by
  rw [List.getElem?_set, if_neg (fun z => h z.symm)]
theorem ss_one {l : List Int32} {a b m m' : Nat} {c : Int32} (h : ss l a b m) (hb : b < l.length) (hc : (psh c ∧ m' = m + 1) ∨ (bnr c ∧ 2 ≤ m ∧ m' + 1 = m)) : ss (l.set b c) a (b + 1) m' := by
  obtain ⟨h1, dep, h2, h3, h4⟩ := h
  refine ⟨by omega, fun k => if k = b + 1 then m' else dep k, ?_, ?_, fun k k1 k2 => ?_⟩
  · show (if a = b + 1 then m' else dep a) = 0
    rw [if_neg (by omega)]
    exact h2
  · show (if b + 1 = b + 1 then m' else dep (b + 1)) = m'
    rw [if_pos rfl]
  · by_cases e : k = b
    · subst e
      refine ⟨c, List.getElem?_set_self hb, ?_⟩
      show (psh c ∧ (if k + 1 = k + 1 then m' else _) = (if k = k + 1 then m' else dep k) + 1) ∨ (bnr c ∧ 2 ≤ (if k = k + 1 then m' else dep k) ∧ (if k + 1 = k + 1 then m' else _) + 1 = (if k = k + 1 then m' else dep k))
      rw [if_pos rfl, if_neg (by omega), h3]
      exact hc
    · obtain ⟨c', c1, c2⟩ := h4 k k1 (by omega)
      refine ⟨c', by rw [set_ne e]; exact c1, ?_⟩
      show (psh c' ∧ (if k + 1 = b + 1 then m' else dep (k + 1)) = (if k = b + 1 then m' else dep k) + 1) ∨ (bnr c' ∧ 2 ≤ (if k = b + 1 then m' else dep k) ∧ (if k + 1 = b + 1 then m' else dep (k + 1)) + 1 = (if k = b + 1 then m' else dep k))
      rw [if_neg (by omega), if_neg (by omega)]
      exact c2
theorem ss_app {l : List Int32} {a b c m n : Nat} (h : ss l a b m) (h' : ss l b c n) : ss l a c (m + n) := by
  obtain ⟨h1, dep, h2, h3, h4⟩ := h
  obtain ⟨g1, dep', g2, g3, g4⟩ := h'
  refine ⟨by omega, fun k => if k ≤ b then dep k else m + dep' k, ?_, ?_, fun k k1 k2 => ?_⟩
  · show (if a ≤ b then dep a else _) = 0
    rw [if_pos h1]
    exact h2
  · show (if c ≤ b then dep c else m + dep' c) = m + n
    by_cases e : c ≤ b
    · obtain rfl : c = b := by omega
      rw [if_pos e, h3]
      omega
    · rw [if_neg e, g3]
  · by_cases e : k + 1 ≤ b
    · obtain ⟨x, x1, x2⟩ := h4 k k1 (by omega)
      refine ⟨x, x1, ?_⟩
      show (psh x ∧ (if k + 1 ≤ b then dep (k + 1) else _) = (if k ≤ b then dep k else _) + 1) ∨ (bnr x ∧ 2 ≤ (if k ≤ b then dep k else _) ∧ (if k + 1 ≤ b then dep (k + 1) else _) + 1 = (if k ≤ b then dep k else _))
      rw [if_pos e, if_pos (by omega)]
      exact x2
    · obtain ⟨x, x1, x2⟩ := g4 k (by omega) k2
      refine ⟨x, x1, ?_⟩
      have ek : (if k ≤ b then dep k else m + dep' k) = m + dep' k := by
        by_cases e2 : k ≤ b
        · obtain rfl : k = b := by omega
          rw [if_pos e2, h3, g2]
          omega
        · rw [if_neg e2]
      show (psh x ∧ (if k + 1 ≤ b then dep (k + 1) else m + dep' (k + 1)) = (if k ≤ b then dep k else m + dep' k) + 1) ∨ (bnr x ∧ 2 ≤ (if k ≤ b then dep k else m + dep' k) ∧ (if k + 1 ≤ b then dep (k + 1) else m + dep' (k + 1)) + 1 = (if k ≤ b then dep k else m + dep' k))
      rw [ek, if_neg e]
      rcases x2 with ⟨y1, y2⟩ | ⟨y1, y2, y3⟩
      · exact Or.inl ⟨y1, by omega⟩
      · exact Or.inr ⟨y1, by omega, by omega⟩
/-- a piece with jumps, of which those in P wait for their places -/
noncomputable def pnd (l : List Int32) (dep : Nat → Nat) (k : Nat) : Prop := ∃ c, l[k]? = some c ∧ (kop c = 11 ∨ kop c = 12) ∧ kvl c = 0 ∧ dep k = 1 ∧ dep (k + 1) = 0
noncomputable def cwp (l : List Int32) (P : Nat → Prop) (a b e : Nat) : Prop := a ≤ b ∧ ∃ dep : Nat → Nat, dep a = 0 ∧ dep b = e ∧ ∀ k, a ≤ k → k < b → cw_at l b dep k ∨ (P k ∧ pnd l dep k)
theorem cwp_nil (l : List Int32) (P : Nat → Prop) (a : Nat) : cwp l P a a 0 := ⟨Nat.le_refl _, fun _ => 0, rfl, rfl, fun k h1 h2 => absurd h2 (by omega)⟩
/-- the heights, changed behind b alone -/
theorem cw_at_mono {l l' : List Int32} {b b' : Nat} {dep dep' : Nat → Nat} {k : Nat} (h : cw_at l b dep k) (hk : k < b) (hb : b ≤ b') (hl : l'[k]? = l[k]?) (hd : ∀ j, j ≤ b → dep' j = dep j) : cw_at l' b' dep' k := by
  obtain ⟨c, c1, c2⟩ := h
  refine ⟨c, by rw [hl]; exact c1, ?_⟩
  rw [hd k (by omega), hd (k + 1) (by omega)]
  rcases c2 with z | z | z | ⟨z1, z2, z3, z4, z5, z6⟩ | z
  · exact Or.inl z
  · exact Or.inr (Or.inl z)
  · exact Or.inr (Or.inr (Or.inl z))
  · exact Or.inr (Or.inr (Or.inr (Or.inl ⟨z1, z2, z3, z4, by omega, by rw [hd _ (by omega)]; exact z6⟩)))
  · exact Or.inr (Or.inr (Or.inr (Or.inr z)))
theorem cwp_ext {l l' : List Int32} {P P' : Nat → Prop} {a b e : Nat} (h : cwp l P a b e) (he : ∀ k, a ≤ k → k < b → l'[k]? = l[k]?) (hP : ∀ k, P k → P' k) : cwp l' P' a b e := by
  obtain ⟨h1, dep, h2, h3, h4⟩ := h
  refine ⟨h1, dep, h2, h3, fun k k1 k2 => ?_⟩
  rcases h4 k k1 k2 with z | ⟨z1, c, z2, z3⟩
  · exact Or.inl (cw_at_mono z k2 (Nat.le_refl _) (he k k1 k2) (fun _ _ => rfl))
  · exact Or.inr ⟨hP k z1, c, by rw [he k k1 k2]; exact z2, z3⟩
theorem cwp_ss {l : List Int32} {P : Nat → Prop} {a b c : Nat} (h : cwp l P a b 0) (h' : ss l b c 1) : cwp l P a c 1 := by
  obtain ⟨h1, dep, h2, h3, h4⟩ := h
  obtain ⟨g1, dep', g2, g3, g4⟩ := h'
  refine ⟨by omega, fun k => if k ≤ b then dep k else dep' k, ?_, ?_, fun k k1 k2 => ?_⟩
  · show (if a ≤ b then dep a else _) = 0
    rw [if_pos h1]
    exact h2
  · show (if c ≤ b then dep c else dep' c) = 1
    by_cases e : c ≤ b
    · obtain rfl : c = b := by omega
      rw [g2] at g3
      cases g3
    · rw [if_neg e, g3]
  · by_cases e : k + 1 ≤ b
    · rcases h4 k k1 (by omega) with z | ⟨z1, x, z2, z3, z4, z5, z6⟩
      · exact Or.inl (cw_at_mono z (by omega) g1 rfl (fun j hj => if_pos hj))
      · refine Or.inr ⟨z1, x, z2, z3, z4, ?_, ?_⟩
        · show (if k ≤ b then dep k else _) = 1
          rw [if_pos (by omega)]
          exact z5
        · show (if k + 1 ≤ b then dep (k + 1) else _) = 0
          rw [if_pos e]
          exact z6
    · obtain ⟨x, x1, x2⟩ := g4 k (by omega) k2
      have ek : (if k ≤ b then dep k else dep' k) = dep' k := by
        by_cases e2 : k ≤ b
        · obtain rfl : k = b := by omega
          rw [if_pos e2, h3, g2]
        · rw [if_neg e2]
      have ek1 : (if k + 1 ≤ b then dep (k + 1) else dep' (k + 1)) = dep' (k + 1) := if_neg e
      refine Or.inl ⟨x, x1, ?_⟩
      show ((x.toInt.tdiv 1048576 = 0 ∧ (if k + 1 ≤ b then dep (k + 1) else dep' (k + 1)) = (if k ≤ b then dep k else dep' k) + 1) ∨ _ ∨ _ ∨ _ ∨ _)
      rcases x2 with ⟨y1 | ⟨y1, y2, y3⟩, y4⟩ | ⟨⟨y1, y2⟩, y3, y4⟩
      · exact Or.inl ⟨y1, by rw [ek, ek1]; exact y4⟩
      · refine Or.inr (Or.inl ⟨y1, y2, y3, ?_⟩)
        show (if k + 1 ≤ b then dep (k + 1) else dep' (k + 1)) = (if k ≤ b then dep k else dep' k) + 1
        rw [ek, ek1]; exact y4
      · refine Or.inr (Or.inr (Or.inr (Or.inr ⟨y1, y2, ?_, ?_⟩)))
        · show 2 ≤ (if k ≤ b then dep k else dep' k)
          rw [ek]; exact y3
        · show (if k + 1 ≤ b then dep (k + 1) else dep' (k + 1)) + 1 = (if k ≤ b then dep k else dep' k)
          rw [ek, ek1]; exact y4
/-- one more code behind: not, or a jump -/
theorem cwp_one {l : List Int32} {P : Nat → Prop} {a b e' : Nat} {c : Int32} (h : cwp l P a b 1) (hb : b < l.length) (hc : (kop c = 10 ∧ e' = 1) ∨ ((kop c = 11 ∨ kop c = 12) ∧ kvl c = 0 ∧ e' = 0)) : cwp (l.set b c) (fun k => P k ∨ (k = b ∧ e' = 0)) a (b + 1) e' := by
  obtain ⟨h1, dep, h2, h3, h4⟩ := h
  refine ⟨by omega, fun k => if k = b + 1 then e' else dep k, ?_, ?_, fun k k1 k2 => ?_⟩
  · show (if a = b + 1 then e' else dep a) = 0
    rw [if_neg (by omega)]
    exact h2
  · show (if b + 1 = b + 1 then e' else _) = e'
    rw [if_pos rfl]
  · by_cases e : k = b
    · subst e
      have ek : (if k = k + 1 then e' else dep k) = 1 := by rw [if_neg (by omega)]; exact h3
      have ek1 : (if k + 1 = k + 1 then e' else dep (k + 1)) = e' := if_pos rfl
      rcases hc with ⟨z1, z2⟩ | ⟨z1, z2, z3⟩
      · refine Or.inl ⟨c, List.getElem?_set_self hb, Or.inr (Or.inr (Or.inl ⟨z1, ?_, ?_⟩))⟩
        · show 1 ≤ (if k = k + 1 then e' else dep k)
          omega
        · show (if k + 1 = k + 1 then e' else dep (k + 1)) = (if k = k + 1 then e' else dep k)
          omega
      · refine Or.inr ⟨Or.inr ⟨rfl, z3⟩, c, List.getElem?_set_self hb, z1, z2, ek, ?_⟩
        show (if k + 1 = k + 1 then e' else dep (k + 1)) = 0
        omega
    · rcases h4 k k1 (by omega) with z | ⟨z1, x, z2, z3, z4, z5, z6⟩
      · exact Or.inl (cw_at_mono z (by omega) (by omega) (set_ne e) (fun j hj => if_neg (by omega)))
      · refine Or.inr ⟨Or.inl z1, x, by rw [set_ne e]; exact z2, z3, z4, ?_, ?_⟩
        · show (if k = b + 1 then e' else dep k) = 1
          rw [if_neg (by omega)]
          exact z5
        · show (if k + 1 = b + 1 then e' else dep (k + 1)) = 0
          rw [if_neg (by omega)]
          exact z6
/-- a jump that waited gets its place -/
theorem cwp_land {l : List Int32} {P : Nat → Prop} {a b j : Nat} {c c' : Int32} (h : cwp l P a b 1) (hj : a ≤ j) (hjb : j < b) (hl : l[j]? = some c) (hc : kop c = 11 ∨ kop c = 12) (hv : kvl c = 0) (hc' : kop c' = kop c) (hv' : kvl c' = (b : Int)) : cwp (l.set j c') (fun k => P k ∧ k ≠ j) a b 1 := by
  have hjl : j < l.length := (List.getElem?_eq_some_iff.mp hl).1
  obtain ⟨h1, dep, h2, h3, h4⟩ := h
  refine ⟨h1, dep, h2, h3, fun k k1 k2 => ?_⟩
  by_cases e : k = j
  · subst e
    have hp : dep k = 1 ∧ dep (k + 1) = 0 := by
      rcases h4 k k1 k2 with ⟨x, x1, x2⟩ | ⟨z1, x, z2, z3, z4, z5, z6⟩
      · cases hl.symm.trans x1
        exfalso
        have hc : c.toInt.tdiv 1048576 = 11 ∨ c.toInt.tdiv 1048576 = 12 := hc
        have hv : c.toInt.tmod 1048576 = 0 := hv
        rcases x2 with y | y | y | y | y
        · omega
        · omega
        · omega
        · omega
        · omega
      · exact ⟨z5, z6⟩
    refine Or.inl ⟨c', List.getElem?_set_self hjl, Or.inr (Or.inr (Or.inr (Or.inl ⟨?_, ?_, ?_, ?_, ?_, ?_⟩)))⟩
    · show kop c' = 11 ∨ kop c' = 12
      rw [hc']
      exact hc
    · omega
    · omega
    · show (k : Int) < kvl c'
      rw [hv']
      omega
    · show kvl c' ≤ (b : Int)
      rw [hv']
      omega
    · show dep (kvl c').toNat = dep k
      rw [hv', hp.1]
      exact h3
  · rcases h4 k k1 k2 with z | ⟨z1, x, z2, z3⟩
    · exact Or.inl (cw_at_mono z k2 (Nat.le_refl _) (set_ne e) (fun _ _ => rfl))
    · exact Or.inr ⟨⟨z1, e⟩, x, by rw [set_ne e]; exact z2, z3⟩
/-- nothing waits: the piece runs -/
theorem cwp_seg {l : List Int32} {P : Nat → Prop} {a b : Nat} (h : cwp l P a b 1) (hP : ∀ k, ¬ P k) (hb : b ≤ 260) : cw_seg l a b := by
  obtain ⟨h1, dep, h2, h3, h4⟩ := h
  refine ⟨h1, hb, dep, h2, fun _ => h3, fun k k1 k2 => ?_⟩
  rcases h4 k k1 k2 with z | ⟨z, -⟩
  · exact z
  · exact absurd z (hP k)
theorem ss_seg {l : List Int32} {a b : Nat} (h : ss l a b 1) (hb : b ≤ 260) : cw_seg l a b := cwp_seg (P := fun _ => False) (cwp_ss (cwp_nil l _ a) h) (fun _ z => z) hb
theorem cw_seg_nil (l : List Int32) {a : Nat} (ha : a ≤ 260) : cw_seg l a a := ⟨Nat.le_refl _, ha, fun _ => 0, rfl, fun z => absurd z (by omega), fun k h1 h2 => absurd h2 (by omega)⟩
theorem cw_seg_ext {l l' : List Int32} {a b : Nat} (h : cw_seg l a b) (he : ∀ k, a ≤ k → k < b → l'[k]? = l[k]?) : cw_seg l' a b := by
  obtain ⟨h1, h2, dep, h3, h4, h5⟩ := h
  exact ⟨h1, h2, dep, h3, h4, fun k k1 k2 => cw_at_mono (h5 k k1 k2) k2 (Nat.le_refl _) (he k k1 k2) (fun _ _ => rfl)⟩
/-! numbers -/
theorem ia {x y : Int32} (h1 : -2147483648 ≤ x.toInt + y.toInt) (h2 : x.toInt + y.toInt ≤ 2147483647) : (x + y).toInt = x.toInt + y.toInt := an_add32 h1 h2
theorem i_1 {x : Int32} (h : x.toInt ≤ 1000000) : (x + 1).toInt = x.toInt + 1 := by
  have := an_top x
  exact an_add32 (y := 1) (show -2147483648 ≤ x.toInt + (1 : Int) by omega) (show x.toInt + (1 : Int) ≤ 2147483647 by omega)
theorem i_m1 {x : Int32} (h : 0 ≤ x.toInt) : (x - 1).toInt = x.toInt - 1 := by
  have := an_top x
  exact an_sub32 (y := 1) (show -2147483648 ≤ x.toInt - (1 : Int) by omega) (show x.toInt - (1 : Int) ≤ 2147483647 by omega)
theorem e_unit : (1048576 : Int32).toInt = 1048576 := rfl
/-- an operation and its number in one code -/
theorem kcode {o v : Int32} (ho : 0 ≤ o.toInt ∧ o.toInt ≤ 14) (hv : 0 ≤ v.toInt ∧ v.toInt < 1048576) : (1048576 * o + v).toInt = 1048576 * o.toInt + v.toInt ∧ kop (1048576 * o + v) = o.toInt ∧ kvl (1048576 * o + v) = v.toInt := by
  have e1 : (1048576 * o).toInt = 1048576 * o.toInt := by
    have := an_mul32 (x := 1048576) (y := o) (by rw [e_unit]; omega) (by rw [e_unit]; omega)
    rw [this, e_unit]
  have e2 : (1048576 * o + v).toInt = 1048576 * o.toInt + v.toInt := by
    rw [ia (by rw [e1]; omega) (by rw [e1]; omega), e1]
  refine ⟨e2, ?_, ?_⟩
  · show (1048576 * o + v).toInt.tdiv 1048576 = _
    rw [e2, Int.tdiv_eq_ediv_of_nonneg (by omega)]
    omega
  · show (1048576 * o + v).toInt.tmod 1048576 = _
    rw [e2, Int.tmod_eq_emod_of_nonneg (by omega)]
    omega
theorem kdiv (x : Int32) : (x / 1048576).toInt = kop x := by rw [an_div32 (by decide)]; rfl
theorem hV_lt {p n : Int32} {t : List Int32} (h : ¬ hV p n t = (-1)) : p.toInt < n.toInt := by
  by_cases z : p.toInt < n.toInt
  · exact z
  · exact absurd (if_neg z) h
theorem hV_c {p n c : Int32} {t : List Int32} (h : hV p n t = c) (hc : ¬ c = (-1)) : p.toInt < n.toInt := hV_lt (by rw [h]; exact hc)
theorem wV_0 (t : List Int32) : wV 0 t = (-1) := if_pos rfl
theorem wV_s {w : Int32} {t : List Int32} (h : 1 ≤ w.toInt) : (wV w t).toInt = kop (t.getD (w.toInt - 1).toNat 0) := by
  have h0 : ¬ w = 0 := fun z => by rw [z] at h; exact absurd h (by decide)
  rw [wV, if_neg h0, kdiv, i_m1 (by omega)]
theorem dV_1 {c : Int32} (h : ¬ dV c = 0) : 48 ≤ c.toInt ∧ c.toInt ≤ 57 := by
  by_cases z : 48 ≤ c.toInt ∧ c.toInt ≤ 57
  · exact z
  · exact absurd (if_neg z) h
theorem uF_ne {F : Nat → Nat → Int32} {k j a b : Nat} {v : Int32} (h : ¬ (a = k ∧ b = j)) : uF F k j v a b = F a b := by
  unfold uF
  cases e : (Nat.beq a k && Nat.beq b j) with
  | true =>
    simp only [Bool.and_eq_true, Nat.beq_eq] at e
    exact absurd e h
  | false => rfl
theorem uF_eq {F : Nat → Nat → Int32} {k j : Nat} {v : Int32} : uF F k j v k j = v := by
  unfold uF
  rw [show (Nat.beq k k && Nat.beq j j) = true by simp [Nat.beq_eq]]
  rfl
theorem uA_ne {A : Nat → List Int32} {k a : Nat} {l : List Int32} (h : ¬ a = k) : uA A k l a = A a := by
  unfold uA
  cases e : Nat.beq a k with
  | true => exact absurd (Nat.eq_of_beq_eq_true e) h
  | false => rfl
theorem uA_eq {A : Nat → List Int32} {k : Nat} {l : List Int32} : uA A k l k = l := by
  unfold uA
  rw [show Nat.beq k k = true by simp [Nat.beq_eq]]
  rfl
