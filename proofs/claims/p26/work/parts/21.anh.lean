/-! the analyst's heap -/
noncomputable def an_len : List (Nat × Int × Int) → Nat
  | [] => 0
  | g :: t => g.1 + an_len t
noncomputable def an_at : List (Nat × Int × Int) → Nat → Option (Int × Int)
  | [], _ => none
  | g :: t, i => cond (Nat.blt i g.1) (some g.2) (an_at t (i - g.1))
noncomputable def an_jn : List (Nat × Int × Int) → Nat → Nat → Option (Int × Int)
  | [], _, _ => none
  | g :: t, i, j => cond (Nat.blt j g.1) (some g.2) (cond (Nat.blt i g.1) (match an_jn t 0 (j - g.1) with
      | some b => some (imin g.2.1 b.1, imax g.2.2 b.2)
      | none => none) (an_jn t (i - g.1) (j - g.1)))
noncomputable def an_fa : List (Nat × Int × Int) → Nat → Nat → Int × Int → Bool
  | [], _, _, _ => false
  | g :: t, i, j, v => cond (Nat.blt j g.1) (ile g.2.1 v.1 && ile v.2 g.2.2) (cond (Nat.blt i g.1) (ile g.2.1 v.1 && ile v.2 g.2.2 && an_fa t 0 (j - g.1) v) (an_fa t (i - g.1) (j - g.1) v))
theorem an_blt_f {i n : Nat} (h : Nat.blt i n = false) : n ≤ i := by
  rcases Nat.lt_or_ge i n with z | z
  · rw [Nat.blt_eq.mpr z] at h; cases h
  · exact z
theorem an_jn_ok : ∀ (sg : List (Nat × Int × Int)) (i j : Nat) (b : Int × Int), an_jn sg i j = some b → ∀ n, i ≤ n → n ≤ j → ∃ b', an_at sg n = some b' ∧ b.1 ≤ b'.1 ∧ b'.2 ≤ b.2 := by
  intro sg
  induction sg with
  | nil => intro i j b h; cases h
  | cons g t ih =>
    intro i j b h n h1 h2
    unfold an_jn at h
    unfold an_at
    cases hj : Nat.blt j g.1 with
    | true =>
      rw [hj] at h
      cases h
      have := Nat.blt_eq.mp hj
      rw [Nat.blt_eq.mpr (show n < g.1 by omega)]
      exact ⟨g.2, rfl, Int.le_refl _, Int.le_refl _⟩
    | false =>
      rw [hj] at h
      have hj := an_blt_f hj
      dsimp only [cond_false] at h
      cases hi : Nat.blt i g.1 with
      | true =>
        rw [hi] at h
        dsimp only [cond_true] at h
        split at h
        · rename_i b0 hb0
          cases h
          dsimp only
          have m1 := imin_le (a := g.2.1) (b := b0.1)
          have m2 := le_imax (a := g.2.2) (b := b0.2)
          cases hn : Nat.blt n g.1 with
          | true => exact ⟨g.2, rfl, m1.1, m2.1⟩
          | false =>
            have hn := an_blt_f hn
            obtain ⟨b', e1, e2, e3⟩ := ih 0 (j - g.1) b0 hb0 (n - g.1) (by omega) (by omega)
            exact ⟨b', e1, by omega, by omega⟩
        · cases h
      | false =>
        rw [hi] at h
        have hi := an_blt_f hi
        cases hn : Nat.blt n g.1 with
        | true => have := Nat.blt_eq.mp hn; omega
        | false => exact ih (i - g.1) (j - g.1) b h (n - g.1) (by omega) (by omega)
theorem an_fa_ok : ∀ (sg : List (Nat × Int × Int)) (i j : Nat) (v : Int × Int), an_fa sg i j v = true → ∀ n, i ≤ n → n ≤ j → ∃ b', an_at sg n = some b' ∧ b'.1 ≤ v.1 ∧ v.2 ≤ b'.2 := by
  intro sg
  induction sg with
  | nil => intro i j b h; cases h
  | cons g t ih =>
    intro i j v h n h1 h2
    unfold an_fa at h
    unfold an_at
    cases hj : Nat.blt j g.1 with
    | true =>
      rw [hj] at h
      dsimp only [cond_true] at h
      rw [Bool.and_eq_true, ile_iff, ile_iff] at h
      have := Nat.blt_eq.mp hj
      rw [Nat.blt_eq.mpr (show n < g.1 by omega)]
      exact ⟨g.2, rfl, h.1, h.2⟩
    | false =>
      rw [hj] at h
      have hj := an_blt_f hj
      dsimp only [cond_false] at h
      cases hi : Nat.blt i g.1 with
      | true =>
        rw [hi] at h
        dsimp only [cond_true] at h
        rw [Bool.and_eq_true, Bool.and_eq_true, ile_iff, ile_iff] at h
        cases hn : Nat.blt n g.1 with
        | true => exact ⟨g.2, rfl, h.1.1, h.1.2⟩
        | false =>
          have hn := an_blt_f hn
          exact ih 0 (j - g.1) v h.2 (n - g.1) (by omega) (by omega)
      | false =>
        rw [hi] at h
        have hi := an_blt_f hi
        cases hn : Nat.blt n g.1 with
        | true => have := Nat.blt_eq.mp hn; omega
        | false => exact ih (i - g.1) (j - g.1) v h (n - g.1) (by omega) (by omega)
theorem an_at_lt : ∀ (sg : List (Nat × Int × Int)) (n : Nat) (b : Int × Int), an_at sg n = some b → n < an_len sg := by
  intro sg
  induction sg with
  | nil => intro n b h; cases h
  | cons g t ih =>
    intro n b h
    unfold an_at at h
    unfold an_len
    cases hn : Nat.blt n g.1 with
    | true => have := Nat.blt_eq.mp hn; omega
    | false =>
      rw [hn] at h
      have := ih _ _ h
      have := an_blt_f hn
      omega
noncomputable def an_rA (sg : List (Nat × Int × Int)) (l : List Int32) : Prop := l.length = an_len sg ∧ ∀ (i : Nat) (x : Int32) (b : Int × Int), l[i]? = some x → an_at sg i = some b → b.1 ≤ x.toInt ∧ x.toInt ≤ b.2
noncomputable def an_rF (ρ : List Int) : List an_S → List Value → Prop
  | [], [] => True
  | a :: t, v :: u => an_rv ρ a v ∧ an_rF ρ t u
  | _, _ => False
noncomputable def an_rC (ρ : List Int) (c : an_C) (d : sm_C) : Prop := match c, d with
  | .inl a, .inl (k, .inl l) => a.1 = k ∧ k ≠ 1 ∧ an_rA a.2 l
  | .inl a, .inl (k, .inr l) => a.1 = k ∧ k = 1 ∧ l.length = an_len a.2
  | .inr o, .inr p => o.1 = p.1 ∧ an_rF ρ o.2 p.2
  | _, _ => False
noncomputable def an_rH (ρ : List Int) : an_H → sm_H → Prop
  | [], [] => True
  | c :: t, d :: u => an_rC ρ c d ∧ an_rH ρ t u
  | _, _ => False
section ANH
variable {ρ : List Int}
theorem an_rF_ext (r : List Int) : ∀ {as : List an_S} {vs : List Value}, an_rF ρ as vs → an_rF (ρ ++ r) as vs
  | [], [], _ => trivial
  | _ :: _, _ :: _, h => ⟨an_rv_ext r h.1, an_rF_ext r h.2⟩
  | [], _ :: _, h => h.elim
  | _ :: _, [], h => h.elim
theorem an_rF_get : ∀ {as : List an_S} {vs : List Value} {j : Nat} {a : an_S}, an_rF ρ as vs → as[j]? = some a → ∃ v, vs[j]? = some v ∧ an_rv ρ a v
  | a :: t, v :: u, 0, b, h, e => by cases e; exact ⟨v, rfl, h.1⟩
  | a :: t, v :: u, j + 1, b, h, e => an_rF_get (as := t) (vs := u) (j := j) h.2 e
  | [], [], _, _, _, e => by cases e
  | [], _ :: _, _, _, h, _ => h.elim
  | _ :: _, [], _, _, h, _ => h.elim
theorem an_rF_set : ∀ {as : List an_S} {vs : List Value} (j : Nat) {a : an_S} {v : Value}, an_rF ρ as vs → an_rv ρ a v → an_rF ρ (as.set j a) (vs.set j v)
  | a :: t, v :: u, 0, b, w, h, e => ⟨e, h.2⟩
  | a :: t, v :: u, j + 1, b, w, h, e => ⟨h.1, an_rF_set j h.2 e⟩
  | [], [], _, _, _, _, _ => trivial
  | [], _ :: _, _, _, _, h, _ => h.elim
  | _ :: _, [], _, _, _, h, _ => h.elim
theorem an_rF_len : ∀ {as : List an_S} {vs : List Value}, an_rF ρ as vs → as.length = vs.length
  | [], [], _ => rfl
  | a :: t, v :: u, h => by rw [List.length_cons, List.length_cons, an_rF_len h.2]
  | [], _ :: _, h => h.elim
  | _ :: _, [], h => h.elim
theorem an_rC_ext (r : List Int) {c : an_C} {d : sm_C} (h : an_rC ρ c d) : an_rC (ρ ++ r) c d := by
  unfold an_rC at h ⊢
  split at h
  · exact h
  · exact h
  · exact ⟨h.1, an_rF_ext r h.2⟩
  · exact h.elim
theorem an_rH_ext (r : List Int) : ∀ {H : an_H} {hp : sm_H}, an_rH ρ H hp → an_rH (ρ ++ r) H hp
  | [], [], _ => trivial
  | _ :: _, _ :: _, h => ⟨an_rC_ext r h.1, an_rH_ext r h.2⟩
  | [], _ :: _, h => h.elim
  | _ :: _, [], h => h.elim
theorem an_rH_get : ∀ {H : an_H} {hp : sm_H} {k : Nat} {c : an_C}, an_rH ρ H hp → H[k]? = some c → ∃ d, hp[k]? = some d ∧ an_rC ρ c d
  | a :: t, v :: u, 0, b, h, e => by cases e; exact ⟨v, rfl, h.1⟩
  | a :: t, v :: u, j + 1, b, h, e => an_rH_get (H := t) (hp := u) (k := j) h.2 e
  | [], [], _, _, _, e => by cases e
  | [], _ :: _, _, _, h, _ => h.elim
  | _ :: _, [], _, _, h, _ => h.elim
theorem an_rH_set : ∀ {H : an_H} {hp : sm_H} (k : Nat) {c : an_C} {d : sm_C}, an_rH ρ H hp → an_rC ρ c d → an_rH ρ (H.set k c) (hp.set k d)
  | a :: t, v :: u, 0, b, w, h, e => ⟨e, h.2⟩
  | a :: t, v :: u, j + 1, b, w, h, e => ⟨h.1, an_rH_set j h.2 e⟩
  | [], [], _, _, _, _, _ => trivial
  | [], _ :: _, _, _, _, h, _ => h.elim
  | _ :: _, [], _, _, _, h, _ => h.elim
/-- the abstract cell stays: only the array's contents change -/
theorem an_rH_arr : ∀ {H : an_H} {hp : sm_H} (k : Nat) {c : an_C} {d : sm_C}, an_rH ρ H hp → H[k]? = some c → an_rC ρ c d → an_rH ρ H (hp.set k d)
  | a :: t, v :: u, 0, b, w, h, e, f => by cases e; exact ⟨f, h.2⟩
  | a :: t, v :: u, j + 1, b, w, h, e, f => ⟨h.1, an_rH_arr (H := t) (hp := u) j h.2 e f⟩
  | [], [], _, _, _, _, e, _ => by cases e
  | [], _ :: _, _, _, _, h, _, _ => h.elim
  | _ :: _, [], _, _, _, h, _, _ => h.elim
end ANH
noncomputable def an_rL (ρ : List Int) (ls : an_L) (lc : sm_L) : Prop := ls.length = lc.length ∧ ∀ (i : Nat) (a : an_S), ls[i]? = some (some a) → ∃ v, lc[i]? = some (some v) ∧ an_rv ρ a v
theorem an_rL_ext {ρ : List Int} (r : List Int) {ls : an_L} {lc : sm_L} (h : an_rL ρ ls lc) : an_rL (ρ ++ r) ls lc := ⟨h.1, fun i a e => by
  obtain ⟨v, h1, h2⟩ := h.2 i a e
  exact ⟨v, h1, an_rv_ext r h2⟩⟩
/-- the arrays that were not written are as they were -/
noncomputable def an_prc (k : Nat) : Bool := Nat.ble 78 k && Nat.ble k 82
noncomputable def an_fld17 (h : sm_H) : Option Value := match (h[67]? : Option sm_C) with
  | some (Sum.inr o) => o.2[17]?
  | _ => none
/-- THE LAW's codes, in the reference, are as they were -/
noncomputable def an_rP (h0 hp : sm_H) : Prop := (∀ (k : Nat) (c : Nat × (List Int32 ⊕ List Int64)), an_prc k = true → h0[k]? = some (.inl c) → hp[k]? = some (.inl c)) ∧ ∀ v, an_fld17 h0 = some v → an_fld17 hp = some v
theorem an_rP_rf (h : sm_H) : an_rP h h := ⟨fun _ _ _ h => h, fun _ h => h⟩
theorem an_rP_tr {a b c : sm_H} (h : an_rP a b) (h' : an_rP b c) : an_rP a c := ⟨fun k x hk hx => h'.1 k x hk (h.1 k x hk hx), fun v hv => h'.2 v (h.2 v hv)⟩
/-- a piece of codes that runs on a stack: how high the stack is at each place -/
noncomputable def cw_at (l : List Int32) (b : Nat) (dep : Nat → Nat) (k : Nat) : Prop := ∃ c : Int32, l[k]? = some c ∧ ((c.toInt.tdiv 1048576 = 0 ∧ dep (k + 1) = dep k + 1) ∨ (c.toInt.tdiv 1048576 = 1 ∧ 0 ≤ c.toInt.tmod 1048576 ∧ c.toInt.tmod 1048576 < 8 ∧ dep (k + 1) = dep k + 1) ∨ (c.toInt.tdiv 1048576 = 10 ∧ 1 ≤ dep k ∧ dep (k + 1) = dep k) ∨ ((c.toInt.tdiv 1048576 = 11 ∨ c.toInt.tdiv 1048576 = 12) ∧ 1 ≤ dep k ∧ dep (k + 1) + 1 = dep k ∧ (k : Int) < c.toInt.tmod 1048576 ∧ c.toInt.tmod 1048576 ≤ (b : Int) ∧ dep (c.toInt.tmod 1048576).toNat = dep k) ∨ (2 ≤ c.toInt.tdiv 1048576 ∧ c.toInt.tdiv 1048576 ≤ 9 ∧ 2 ≤ dep k ∧ dep (k + 1) + 1 = dep k))
noncomputable def cw_seg (l : List Int32) (a b : Nat) : Prop := a ≤ b ∧ b ≤ 260 ∧ ∃ dep : Nat → Nat, dep a = 0 ∧ (a < b → dep b = 1) ∧ ∀ k, a ≤ k → k < b → cw_at l b dep k
/-- all RULES' pieces run -/
noncomputable def an_WF (h : sm_H) : Prop := ∃ (n : Int32) (lc l1 l2 l3 : List Int32), an_fld17 h = some (.int n) ∧ h[78]? = some (.inl (0, .inl lc)) ∧ h[80]? = some (.inl (0, .inl l1)) ∧ h[81]? = some (.inl (0, .inl l2)) ∧ h[82]? = some (.inl (0, .inl l3)) ∧ n.toInt ≤ 16 ∧ ∀ q : Nat, (q : Int) < n.toInt → ∃ a m b : Nat, l1[q]? = some (nI a) ∧ l2[q]? = some (nI m) ∧ l3[q]? = some (nI b) ∧ cw_seg lc a m ∧ cw_seg lc m b
theorem an_WF_keep {h0 hp : sm_H} (h : an_rP h0 hp) (hw : an_WF h0) : an_WF hp := by
  obtain ⟨n, lc, l1, l2, l3, h1, h2, h3, h4, h5, h6⟩ := hw
  exact ⟨n, lc, l1, l2, l3, h.2 _ h1, h.1 78 _ rfl h2, h.1 80 _ rfl h3, h.1 81 _ rfl h4, h.1 82 _ rfl h5, h6⟩
/-- the pieces of the reference's three tables: a number for each piece -/
noncomputable def an_is (k : Nat) : Bool := Nat.ble 68 k && Nat.ble k 70
noncomputable def an_pg (i : Nat) : Nat := cond (Nat.blt i 72) (i / 12) (cond (Nat.blt i 144) 6 (i - 137))
noncomputable def an_sc (k i : Nat) : Nat := 1000 + 20 * (k - 68) + an_pg i
noncomputable def an_rS (Wr : List Nat) (h0 hp : sm_H) : Prop := ∀ (k : Nat), an_is k = true → ∀ (kd : Nat) (l : List Int32), h0[k]? = some (.inl (kd, .inl l)) → ∃ l' : List Int32, hp[k]? = some (.inl (kd, .inl l')) ∧ ∀ i, an_sc k i ∉ Wr → l'[i]? = l[i]?
theorem an_rS_rf {Wr : List Nat} {h : sm_H} : an_rS Wr h h := fun _ _ _ l hl => ⟨l, hl, fun _ _ => rfl⟩
theorem an_rS_tr {W W' : List Nat} {a b c : sm_H} (h : an_rS W a b) (h' : an_rS W' b c) : an_rS (W' ++ W) a c := fun k hk kd l hl => by
  obtain ⟨l1, h1, h2⟩ := h k hk kd l hl
  obtain ⟨l2, h3, h4⟩ := h' k hk kd l1 h1
  exact ⟨l2, h3, fun i hi => (h4 i (fun z => hi (List.mem_append_left _ z))).trans (h2 i (fun z => hi (List.mem_append_right _ z)))⟩
theorem an_rS_sub {W W' : List Nat} {a b : sm_H} (h : an_rS W a b) (hs : ∀ w ∈ W, w ∈ W') : an_rS W' a b := fun k hk kd l hl => by
  obtain ⟨l1, h1, h2⟩ := h k hk kd l hl
  exact ⟨l1, h1, fun i hi => h2 i (fun z => hi (hs _ z))⟩
noncomputable def an_rW (Wr : List Nat) (h0 hp : sm_H) : Prop := ((∀ (k : Nat) (c : Nat × (List Int32 ⊕ List Int64)), h0[k]? = some (.inl c) → k ∉ Wr → hp[k]? = some (.inl c)) ∧ an_rS Wr h0 hp) ∧ an_rP h0 hp
theorem an_rW_rf {Wr : List Nat} {h : sm_H} : an_rW Wr h h := ⟨⟨fun _ _ h _ => h, an_rS_rf⟩, an_rP_rf h⟩
/-- what a store writes -/
noncomputable def an_cr (b : Nat) : Nat → List Nat
  | 0 => []
  | n + 1 => (b + n) :: an_cr b n
noncomputable def an_aw (k lo hi : Nat) : List Nat := cond (an_is k) (k :: an_cr (1000 + 20 * (k - 68) + an_pg lo) (an_pg hi + 1 - an_pg lo)) [k]
theorem an_cr_mem {b : Nat} : ∀ {n i : Nat}, b ≤ i → i < b + n → i ∈ an_cr b n
  | 0, i, h1, h2 => absurd h2 (by omega)
  | n + 1, i, h1, h2 => by
    by_cases e : i = b + n
    · subst e; exact List.mem_cons_self
    · exact List.mem_cons_of_mem _ (an_cr_mem h1 (by omega))
theorem an_pg_mono {i j : Nat} (h : i ≤ j) : an_pg i ≤ an_pg j := by
  unfold an_pg
  cases hi : Nat.blt i 72 <;> cases hj : Nat.blt j 72 <;> cases gi : Nat.blt i 144 <;> cases gj : Nat.blt j 144 <;> simp only [cond_true, cond_false] <;>
    (first | (have hi := Nat.blt_eq.mp hi) | (have hi : ¬ i < 72 := fun z => by rw [Nat.blt_eq.mpr z] at hi; cases hi)) <;>
    (first | (have hj := Nat.blt_eq.mp hj) | (have hj : ¬ j < 72 := fun z => by rw [Nat.blt_eq.mpr z] at hj; cases hj)) <;>
    (first | (have gi := Nat.blt_eq.mp gi) | (have gi : ¬ i < 144 := fun z => by rw [Nat.blt_eq.mpr z] at gi; cases gi)) <;>
    (first | (have gj := Nat.blt_eq.mp gj) | (have gj : ¬ j < 144 := fun z => by rw [Nat.blt_eq.mpr z] at gj; cases gj)) <;> omega
theorem an_aw_k {k lo hi : Nat} : k ∈ an_aw k lo hi := by
  unfold an_aw
  cases an_is k <;> exact List.mem_cons_self
theorem an_aw_c {k lo hi i : Nat} (hk : an_is k = true) (h1 : lo ≤ i) (h2 : i ≤ hi) : an_sc k i ∈ an_aw k lo hi := by
  unfold an_aw an_sc
  rw [hk]
  have := an_pg_mono h1
  have := an_pg_mono h2
  exact List.mem_cons_of_mem _ (an_cr_mem (by omega) (by omega))
/-- the array is none of THE LAW's -/
noncomputable def an_guard (st : List an_S) : Bool := match (st[2]? : Option an_S) with
  | some (Sum.inr (Sum.inl k)) => !an_prc k
  | _ => false
noncomputable def an_gp (b : Nat) (st : List an_S) : Bool := match (st[1]? : Option an_S) with
  | some (Sum.inr (Sum.inl k)) => !(Nat.beq k 67 && Nat.beq b 17)
  | _ => false
theorem an_rP_obj {hp : sm_H} {k b : Nat} {o : Nat × List Value} {w : Value} (hk : hp[k]? = some (.inr o)) (hg : (!(Nat.beq k 67 && Nat.beq b 17)) = true) : an_rP hp (hp.set k (.inr (o.1, o.2.set b w))) := by
  refine ⟨fun j c hj hc => ?_, fun v hv => ?_⟩
  · rw [List.getElem?_set, if_neg (fun z => by rw [z, hc] at hk; cases hk)]
    exact hc
  · unfold an_fld17 at hv ⊢
    by_cases e : k = 67
    · subst e
      rw [hk] at hv
      dsimp only at hv
      have hl : 67 < hp.length := (List.getElem?_eq_some_iff.mp hk).1
      rw [List.getElem?_set, if_pos rfl, if_pos hl]
      dsimp only
      rw [List.getElem?_set, if_neg (fun z => by rw [z] at hg; cases hg)]
      exact hv
    · rw [List.getElem?_set, if_neg e]
      exact hv
theorem an_rP_arr {hp : sm_H} {k : Nat} {c c' : Nat × (List Int32 ⊕ List Int64)} (hk : hp[k]? = some (.inl c)) (hg : an_prc k = false) : an_rP hp (hp.set k (.inl c')) := by
  refine ⟨fun j x hj hx => ?_, fun v hv => ?_⟩
  · rw [List.getElem?_set, if_neg (fun z => by rw [z, hj] at hg; cases hg)]
    exact hx
  · unfold an_fld17 at hv ⊢
    rw [List.getElem?_set, if_neg (fun e => by rw [e] at hk; rw [hk] at hv; cases hv)]
    exact hv
noncomputable def ieq (a b : Int) : Bool := ile a b && ile b a
theorem ieq_iff {a b : Int} : ieq a b = true ↔ a = b := by
  unfold ieq; rw [Bool.and_eq_true, ile_iff, ile_iff]; omega
noncomputable def an_rf (ρ : List Int) (hp : sm_H) (f : an_Fc) : Prop := match f with
  | .inl q => ∃ (kd : Nat) (l : List Int32) (x y : Int32), hp[q.1]? = some (.inl (kd, .inl l)) ∧ an_rv ρ q.2.1 (.int x) ∧ 0 ≤ x.toInt ∧ l[x.toInt.toNat]? = some y ∧ an_rv ρ q.2.2 (.int y)
  | .inr (.inl q) => ∃ x y : Int32, an_rv ρ q.1 (.int x) ∧ an_rv ρ q.2.1 (.int y) ∧ x.toInt + q.2.2 ≤ y.toInt
  | .inr (.inr q) => ∃ x : Int32, an_rv ρ q.1 (.int x) ∧ x.toInt ≠ q.2
noncomputable def an_rM (ρ : List Int) (M : List an_Fc) (hp : sm_H) : Prop := ∀ f ∈ M, an_rf ρ hp f
noncomputable def an_rZ (ρ : List Int) (Z : an_Z) (h0 hp : sm_H) : Prop := an_rT Z.1 ρ ∧ an_rH ρ Z.2.1 hp ∧ an_rW Z.2.2.1 h0 hp ∧ an_rM ρ Z.2.2.2 hp
theorem an_rf_ext {ρ : List Int} (e : List Int) {hp : sm_H} {f : an_Fc} (h : an_rf ρ hp f) : an_rf (ρ ++ e) hp f := by
  match f, h with
  | .inl q, ⟨kd, l, x, y, h1, h2, h3, h4, h5⟩ => exact ⟨kd, l, x, y, h1, an_rv_ext e h2, h3, h4, an_rv_ext e h5⟩
  | .inr (.inl q), ⟨x, y, h1, h2, h3⟩ => exact ⟨x, y, an_rv_ext e h1, an_rv_ext e h2, h3⟩
  | .inr (.inr q), ⟨x, h1, h2⟩ => exact ⟨x, an_rv_ext e h1, h2⟩
theorem an_rM_ext {ρ : List Int} (e : List Int) {hp : sm_H} {M : List an_Fc} (h : an_rM ρ M hp) : an_rM (ρ ++ e) M hp := fun f hf => an_rf_ext e (h f hf)
theorem an_rM_nil {ρ : List Int} {hp : sm_H} : an_rM ρ [] hp := fun f hf => by cases hf
theorem an_rM_cons {ρ : List Int} {hp : sm_H} {M : List an_Fc} {f : an_Fc} (h1 : an_rf ρ hp f) (h : an_rM ρ M hp) : an_rM ρ (f :: M) hp := fun g hg => by
  rcases List.mem_cons.mp hg with rfl | hg
  · exact h1
  · exact h g hg
noncomputable def an_kb (k : Nat) (f : an_Fc) : Bool := match f with
  | .inl q => !Nat.beq q.1 k
  | _ => true
noncomputable def an_kill (k : Nat) (M : List an_Fc) : List an_Fc := M.filter (an_kb k)
theorem an_rM_obj {ρ : List Int} {hp : sm_H} {M : List an_Fc} {k : Nat} {o : Nat × List Value} (h : an_rM ρ M hp) (hk : ∃ p, hp[k]? = some (.inr p)) : an_rM ρ M (hp.set k (.inr o)) := fun f hf => by
  have h1 := h f hf
  obtain ⟨p, hk⟩ := hk
  match f, h1 with
  | .inl q, ⟨kd, l, x, y, h1, h2⟩ =>
    refine ⟨kd, l, x, y, ?_, h2⟩
    rw [List.getElem?_set, if_neg (fun z => by rw [z, h1] at hk; cases hk)]
    exact h1
  | .inr (.inl q), h1 => exact h1
  | .inr (.inr q), h1 => exact h1
theorem an_rM_arr {ρ : List Int} {hp : sm_H} {M : List an_Fc} {k : Nat} {d : sm_C} (h : an_rM ρ M hp) : an_rM ρ (an_kill k M) (hp.set k d) := fun f hf => by
  obtain ⟨h0, hb⟩ := List.mem_filter.mp hf
  have h1 := h f h0
  match f, h1, hb with
  | .inl q, ⟨kd, l, x, y, h1, h2⟩, hb =>
    refine ⟨kd, l, x, y, ?_, h2⟩
    rw [List.getElem?_set, if_neg (fun z => by
      unfold an_kb at hb
      dsimp only at hb
      rw [z, Nat.beq_refl] at hb
      cases hb)]
    exact h1
  | .inr (.inl q), h1, _ => exact h1
  | .inr (.inr q), h1, _ => exact h1
noncomputable def an_feq (a b : an_S) : Bool := match a, b with
  | .inl (none, c), .inl (none, c') => ieq c c'
  | .inl (some s, c), .inl (some s', c') => Nat.beq s s' && ieq c c'
  | _, _ => false
theorem an_feq_eq {a b : an_S} (h : an_feq a b = true) : a = b := by
  unfold an_feq at h
  split at h
  · rw [ieq_iff] at h; rw [h]
  · rw [Bool.and_eq_true, Nat.beq_eq, ieq_iff] at h; rw [h.1, h.2]
  · cases h
noncomputable def an_isn (a : an_S) : Bool := match a with
  | .inl (some _, _) => true
  | _ => false
theorem an_rv_fun {ρ : List Int} {a : an_S} {x y : Int32} (h : an_rv ρ a (.int x)) (h' : an_rv ρ a (.int y)) : x = y := by
  match a, h, h' with
  | .inl (none, c), ⟨x', e, h1⟩, ⟨y', e', h2⟩ => cases e; cases e'; exact Int32.toInt_inj.mp (by rw [h1, h2])
  | .inl (some s, c), ⟨x', r, e, h1, h2⟩, ⟨y', r', e', h3, h4⟩ =>
    cases e; cases e'
    rw [h1] at h3
    cases h3
    exact Int32.toInt_inj.mp (by rw [h2, h4])
  | .inr (.inl k), h, _ => cases h
  | .inr (.inr _), ⟨y, h⟩, _ => cases h
/-- what is known of a place -/
noncomputable def an_el (k : Nat) (i : an_S) : List an_Fc → Option an_S
  | [] => none
  | .inl q :: t => cond (Nat.beq q.1 k && an_feq q.2.1 i) (some q.2.2) (an_el k i t)
  | _ :: t => an_el k i t
theorem an_el_ok {ρ : List Int} {hp : sm_H} {k : Nat} {i v : an_S} : ∀ {M : List an_Fc}, an_rM ρ M hp → an_el k i M = some v → an_rf ρ hp (.inl (k, i, v))
  | [], _, h => by cases h
  | .inl q :: t, hM, h => by
    unfold an_el at h
    cases hb : (Nat.beq q.1 k && an_feq q.2.1 i) with
    | false => rw [hb] at h; exact an_el_ok (fun f hf => hM f (List.mem_cons_of_mem _ hf)) h
    | true =>
      rw [hb] at h
      cases h
      rw [Bool.and_eq_true, Nat.beq_eq] at hb
      have := hM (.inl q) List.mem_cons_self
      rw [← hb.1, ← an_feq_eq hb.2]
      exact this
  | .inr (.inl q) :: t, hM, h => by
    unfold an_el at h
    exact an_el_ok (fun f hf => hM f (List.mem_cons_of_mem _ hf)) h
  | .inr (.inr q) :: t, hM, h => by
    unfold an_el at h
    exact an_el_ok (fun f hf => hM f (List.mem_cons_of_mem _ hf)) h
/-- a and so much at most b -/
noncomputable def an_or (a b : an_S) : List an_Fc → Option Int
  | [] => none
  | .inr (.inl q) :: t => cond (an_feq q.1 a && an_feq q.2.1 b) (some q.2.2) (an_or a b t)
  | _ :: t => an_or a b t
theorem an_or_ok {ρ : List Int} {hp : sm_H} {a b : an_S} {k : Int} : ∀ {M : List an_Fc}, an_rM ρ M hp → an_or a b M = some k → an_rf ρ hp (.inr (.inl (a, b, k)))
  | [], _, h => by cases h
  | .inr (.inl q) :: t, hM, h => by
    unfold an_or at h
    cases hb : (an_feq q.1 a && an_feq q.2.1 b) with
    | false => rw [hb] at h; exact an_or_ok (fun f hf => hM f (List.mem_cons_of_mem _ hf)) h
    | true =>
      rw [hb] at h
      cases h
      rw [Bool.and_eq_true] at hb
      have := hM (.inr (.inl q)) List.mem_cons_self
      rw [← an_feq_eq hb.1, ← an_feq_eq hb.2]
      exact this
  | .inl q :: t, hM, h => by
    unfold an_or at h
    exact an_or_ok (fun f hf => hM f (List.mem_cons_of_mem _ hf)) h
  | .inr (.inr q) :: t, hM, h => by
    unfold an_or at h
    exact an_or_ok (fun f hf => hM f (List.mem_cons_of_mem _ hf)) h
noncomputable def an_nq (a : an_S) (c : Int) : List an_Fc → Bool
  | [] => false
  | .inr (.inr q) :: t => (an_feq q.1 a && ieq q.2 c) || an_nq a c t
  | _ :: t => an_nq a c t
theorem an_nq_ok {ρ : List Int} {hp : sm_H} {a : an_S} {c : Int} : ∀ {M : List an_Fc}, an_rM ρ M hp → an_nq a c M = true → an_rf ρ hp (.inr (.inr (a, c)))
  | [], _, h => by cases h
  | .inr (.inr q) :: t, hM, h => by
    unfold an_nq at h
    rcases Bool.or_eq_true _ _ |>.mp h with hb | hb
    · rw [Bool.and_eq_true, ieq_iff] at hb
      have := hM (.inr (.inr q)) List.mem_cons_self
      rw [← an_feq_eq hb.1, ← hb.2]
      exact this
    · exact an_nq_ok (fun f hf => hM f (List.mem_cons_of_mem _ hf)) hb
  | .inl q :: t, hM, h => by
    unfold an_nq at h
    exact an_nq_ok (fun f hf => hM f (List.mem_cons_of_mem _ hf)) h
  | .inr (.inl q) :: t, hM, h => by
    unfold an_nq at h
    exact an_nq_ok (fun f hf => hM f (List.mem_cons_of_mem _ hf)) h
noncomputable def an_orl (a b : an_S) (k : Int) (M : List an_Fc) : Bool := match an_or a b M with
  | some j => ile k j
  | none => false
/-- the comparison can't hold -/
noncomputable def an_no (c : ClassFile.Cond) (a b : an_S) (M : List an_Fc) : Bool := match c with
  | .lt => an_orl b a 0 M
  | .ge => an_orl a b 1 M
  | .gt => an_orl a b 0 M
  | .le => an_orl b a 1 M
  | .eq => (match b with
    | .inl (none, k) => an_nq a k M
    | _ => false) || (match a with
    | .inl (none, k) => an_nq b k M
    | _ => false) || an_orl a b 1 M || an_orl b a 1 M
  | .ne => false
theorem an_orl_ok {ρ : List Int} {hp : sm_H} {M : List an_Fc} {a b : an_S} {x y : Int32} {k : Int} (hM : an_rM ρ M hp) (ha : an_rv ρ a (.int x)) (hb : an_rv ρ b (.int y)) (h : an_orl a b k M = true) : x.toInt + k ≤ y.toInt := by
  unfold an_orl at h
  split at h
  · rename_i j hj
    rw [ile_iff] at h
    obtain ⟨x', y', h1, h2, h3⟩ := an_or_ok hM hj
    rw [an_rv_fun ha h1, an_rv_fun hb h2]
    dsimp only at h3
    omega
  · cases h
theorem an_no_ok {ρ : List Int} {hp : sm_H} {M : List an_Fc} {a b : an_S} {x y : Int32} {c : ClassFile.Cond} (hM : an_rM ρ M hp) (ha : an_rv ρ a (.int x)) (hb : an_rv ρ b (.int y)) (hc : sm_c2 c x y = true) : an_no c a b M = false := by
  cases hn : an_no c a b M with
  | false => rfl
  | true =>
    exfalso
    cases c with
    | lt =>
      have h1 := an_orl_ok hM hb ha hn
      have h2 := Int32.lt_iff_toInt_lt.mp (of_decide_eq_true hc)
      omega
    | ge =>
      have h1 := an_orl_ok hM ha hb hn
      have h2 := Int32.le_iff_toInt_le.mp (of_decide_eq_true hc)
      omega
    | gt =>
      have h1 := an_orl_ok hM ha hb hn
      have h2 := Int32.lt_iff_toInt_lt.mp (of_decide_eq_true hc)
      omega
    | le =>
      have h1 := an_orl_ok hM hb ha hn
      have h2 := Int32.le_iff_toInt_le.mp (of_decide_eq_true hc)
      omega
    | ne => cases hn
    | eq =>
      have e : x = y := of_decide_eq_true hc
      subst e
      unfold an_no at hn
      dsimp only at hn
      rcases Bool.or_eq_true _ _ |>.mp hn with hn | hn
      · rcases Bool.or_eq_true _ _ |>.mp hn with hn | hn
        · rcases Bool.or_eq_true _ _ |>.mp hn with hn | hn
          · split at hn
            · obtain ⟨x', h1, h2⟩ := an_nq_ok hM hn
              obtain ⟨y', e, h3⟩ := hb
              cases e
              have := an_rv_fun ha h1
              subst this
              exact h2 h3
            · cases hn
          · split at hn
            · obtain ⟨x', h1, h2⟩ := an_nq_ok hM hn
              obtain ⟨y', e, h3⟩ := ha
              cases e
              have := an_rv_fun hb h1
              subst this
              exact h2 h3
            · cases hn
        · have h1 := an_orl_ok hM ha hb hn; omega
      · have h1 := an_orl_ok hM hb ha hn; omega
/-- what a comparison that holds tells -/
noncomputable def an_nf (c : ClassFile.Cond) (a b : an_S) (M : List an_Fc) : List an_Fc := match c with
  | .lt => cond (an_isn a && an_isn b) (.inr (.inl (a, b, 1)) :: M) M
  | .ge => cond (an_isn a && an_isn b) (.inr (.inl (b, a, 0)) :: M) M
  | .gt => cond (an_isn a && an_isn b) (.inr (.inl (b, a, 1)) :: M) M
  | .le => cond (an_isn a && an_isn b) (.inr (.inl (a, b, 0)) :: M) M
  | .ne => match b with
    | .inl (none, k) => cond (an_isn a) (.inr (.inr (a, k)) :: M) M
    | _ => M
  | .eq => M
theorem an_rM_cond {ρ : List Int} {hp : sm_H} {M : List an_Fc} {f : an_Fc} {b : Bool} (h1 : an_rf ρ hp f) (h : an_rM ρ M hp) : an_rM ρ (cond b (f :: M) M) hp := by
  cases b with
  | true => exact an_rM_cons h1 h
  | false => exact h
theorem an_nf_ok {ρ : List Int} {hp : sm_H} {M : List an_Fc} {a b : an_S} {x y : Int32} {c : ClassFile.Cond} (hM : an_rM ρ M hp) (ha : an_rv ρ a (.int x)) (hb : an_rv ρ b (.int y)) (hc : sm_c2 c x y = true) : an_rM ρ (an_nf c a b M) hp := by
  cases c with
  | lt =>
    have h2 := Int32.lt_iff_toInt_lt.mp (of_decide_eq_true hc)
    exact an_rM_cond ⟨x, y, ha, hb, by dsimp only; omega⟩ hM
  | ge =>
    have h2 := Int32.le_iff_toInt_le.mp (of_decide_eq_true hc)
    exact an_rM_cond ⟨y, x, hb, ha, by dsimp only; omega⟩ hM
  | gt =>
    have h2 := Int32.lt_iff_toInt_lt.mp (of_decide_eq_true hc)
    exact an_rM_cond ⟨y, x, hb, ha, by dsimp only; omega⟩ hM
  | le =>
    have h2 := Int32.le_iff_toInt_le.mp (of_decide_eq_true hc)
    exact an_rM_cond ⟨x, y, ha, hb, by dsimp only; omega⟩ hM
  | ne =>
    unfold an_nf
    dsimp only
    split
    · rename_i k
      obtain ⟨y', e, h3⟩ := hb
      cases e
      refine an_rM_cond ⟨x, ha, fun z => ?_⟩ hM
      have e : x = y := Int32.toInt_inj.mp (by dsimp only at z; rw [z, h3])
      simp [sm_c2, e] at hc
    · exact hM
  | eq => exact hM
noncomputable def an_isl (a : an_S) : Bool := match a with
  | .inr (.inr _) => true
  | _ => false
theorem an_isl_cat {ρ : List Int} {a : an_S} {v : Value} (h : an_rv ρ a v) : (an_isl a = true → v.category = 2) ∧ (an_isl a = false → v.category = 1) := by
  unfold an_rv at h
  unfold an_isl
  split at h
  · obtain ⟨x, h1, _⟩ := h; subst h1; exact ⟨fun z => (by cases z), fun _ => rfl⟩
  · obtain ⟨x, r, h1, _⟩ := h; subst h1; exact ⟨fun z => (by cases z), fun _ => rfl⟩
  · subst h; exact ⟨fun z => (by cases z), fun _ => rfl⟩
  · obtain ⟨y, h1⟩ := h; subst h1; exact ⟨fun _ => rfl, fun z => by cases z⟩
noncomputable def an_clr (ls : an_L) (i : Nat) : an_L := match i with
  | 0 => ls
  | j + 1 => match ls[j]? with
    | some (some a) => cond (an_isl a) (ls.set j none) ls
    | _ => ls
noncomputable def an_st1 (ls : an_L) (i : Nat) (a : an_S) : Option an_L := cond (Nat.blt i ls.length) (some ((an_clr ls i).set i (some a))) none
noncomputable def an_st2 (ls : an_L) (i : Nat) (a : an_S) : Option an_L := cond (Nat.blt (i + 1) ls.length) (some (((an_clr ls i).set i (some a)).set (i + 1) none)) none
theorem an_clr_len (ls : an_L) (i : Nat) : (an_clr ls i).length = ls.length := by
  unfold an_clr
  split
  · rfl
  · split
    · rename_i a _
      cases an_isl a <;> simp
    · rfl
theorem an_clr_get {ls : an_L} {i j : Nat} {a : an_S} (h : (an_clr ls i)[j]? = some (some a)) : ls[j]? = some (some a) ∧ ¬ (j + 1 = i ∧ an_isl a = true) := by
  cases i with
  | zero => exact ⟨h, fun z => by omega⟩
  | succ k =>
    simp only [an_clr] at h
    split at h
    · rename_i u hu
      cases hl : an_isl u with
      | true =>
        rw [hl] at h
        dsimp only [cond_true] at h
        by_cases hj : k = j
        · subst hj
          rw [List.getElem?_set] at h
          simp at h
        · rw [List.getElem?_set, if_neg hj] at h
          exact ⟨h, fun z => hj (by omega)⟩
      | false =>
        rw [hl] at h
        dsimp only [cond_false] at h
        refine ⟨h, fun z => ?_⟩
        have hj : k = j := by omega
        subst hj
        rw [hu] at h
        cases h
        rw [hl] at z
        cases z.2
    · rename_i hn
      refine ⟨h, fun z => ?_⟩
      have hj : k = j := by omega
      subst hj
      exact hn _ h
/-- a local that isn't cleared is there still -/
theorem an_clr_c {ρ : List Int} {ls : an_L} {lc : sm_L} (h : an_rL ρ ls lc) {i j : Nat} {a : an_S} (e : (an_clr ls i)[j]? = some (some a)) : ∃ v, (sm_clr lc i)[j]? = some (some v) ∧ an_rv ρ a v := by
  obtain ⟨e1, e2⟩ := an_clr_get e
  obtain ⟨v, h1, h2⟩ := h.2 j a e1
  refine ⟨v, ?_, h2⟩
  unfold sm_clr
  split
  · exact h1
  · rename_i k
    split
    · rename_i w hw
      split
      · rename_i hc
        by_cases hj : k = j
        · subst hj
          rw [hw] at h1
          cases h1
          have : an_isl a = true := by
            cases hz : an_isl a with
            | true => rfl
            | false => rw [(an_isl_cat h2).2 hz] at hc; cases hc
          exact absurd ⟨rfl, this⟩ e2
        · rw [List.getElem?_set, if_neg hj]
          exact h1
      · exact h1
    · exact h1
theorem an_st1_ok {ρ : List Int} {ls ls' : an_L} {lc : sm_L} {i : Nat} {a : an_S} {v : Value} (h : an_rL ρ ls lc) (hv : an_rv ρ a v) (e : an_st1 ls i a = some ls') : ∃ lc', sm_st1 lc i v = some lc' ∧ an_rL ρ ls' lc' := by
  unfold an_st1 at e
  cases hb : Nat.blt i ls.length with
  | false => rw [hb] at e; cases e
  | true =>
    rw [hb] at e
    cases e
    have hlt := Nat.blt_eq.mp hb
    refine ⟨(sm_clr lc i).set i (some v), by unfold sm_st1; rw [if_pos (by rw [← h.1]; exact hlt)], by rw [List.length_set, List.length_set, an_clr_len, sm_clr_len]; exact h.1, fun j b ej => ?_⟩
    by_cases hj : i = j
    · subst hj
      rw [List.getElem?_set_self (by rw [an_clr_len]; exact hlt)] at ej
      cases ej
      exact ⟨v, List.getElem?_set_self (by rw [sm_clr_len, ← h.1]; exact hlt), hv⟩
    · rw [List.getElem?_set, if_neg hj] at ej
      rw [List.getElem?_set, if_neg hj]
      exact an_clr_c h ej
theorem an_st2_ok {ρ : List Int} {ls ls' : an_L} {lc : sm_L} {i : Nat} {a : an_S} {v : Value} (h : an_rL ρ ls lc) (hv : an_rv ρ a v) (e : an_st2 ls i a = some ls') : ∃ lc', sm_st2 lc i v = some lc' ∧ an_rL ρ ls' lc' := by
  unfold an_st2 at e
  cases hb : Nat.blt (i + 1) ls.length with
  | false => rw [hb] at e; cases e
  | true =>
    rw [hb] at e
    cases e
    have hlt := Nat.blt_eq.mp hb
    refine ⟨((sm_clr lc i).set i (some v)).set (i + 1) none, by unfold sm_st2; rw [if_pos (by rw [← h.1]; exact hlt)], by simp only [List.length_set, an_clr_len, sm_clr_len]; exact h.1, fun j b ej => ?_⟩
    by_cases h9 : i + 1 = j
    · subst h9
      rw [List.getElem?_set] at ej
      simp at ej
    rw [List.getElem?_set, if_neg h9] at ej
    rw [List.getElem?_set, if_neg h9]
    by_cases hj : i = j
    · subst hj
      rw [List.getElem?_set_self (by rw [an_clr_len]; omega)] at ej
      cases ej
      exact ⟨v, List.getElem?_set_self (by rw [sm_clr_len, ← h.1]; omega), hv⟩
    · rw [List.getElem?_set, if_neg hj] at ej
      rw [List.getElem?_set, if_neg hj]
      exact an_clr_c h ej
