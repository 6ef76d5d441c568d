/-! the analyst's heap -/
def an_len : List (Nat × Int × Int) → Nat
  | [] => 0
  | g :: t => g.1 + an_len t
def an_at : List (Nat × Int × Int) → Nat → Option (Int × Int)
  | [], _ => none
  | g :: t, i => cond (Nat.blt i g.1) (some g.2) (an_at t (i - g.1))
def an_jn : List (Nat × Int × Int) → Nat → Nat → Option (Int × Int)
  | [], _, _ => none
  | g :: t, i, j => cond (Nat.blt j g.1) (some g.2) (cond (Nat.blt i g.1) (match an_jn t 0 (j - g.1) with
      | some b => some (imin g.2.1 b.1, imax g.2.2 b.2)
      | none => none) (an_jn t (i - g.1) (j - g.1)))
def an_fa : List (Nat × Int × Int) → Nat → Nat → Int × Int → Bool
  | [], _, _, _ => false
  | g :: t, i, j, v => cond (Nat.blt j g.1) (ile g.2.1 v.1 && ile v.2 g.2.2) (cond (Nat.blt i g.1) (ile g.2.1 v.1 && ile v.2 g.2.2 && an_fa t 0 (j - g.1) v) (an_fa t (i - g.1) (j - g.1) v))
theorem an_blt_f {i n : Nat} (h : Nat.blt i n = false) : n ≤ i := by
  rcases Nat.lt_or_ge i n with z | z
  · rw [Nat.blt_eq.mpr z] at h; cases h
  · exact z
theorem an_jn_ok : ∀ (sg : List (Nat × Int × Int)) (i j : Nat) (b : Int × Int), an_jn sg i j = some b → ∀ n, i ≤ n → n ≤ j → ∃ b', an_at sg n = some b' ∧ b.1 ≤ b'.1 ∧ b'.2 ≤ b.2 := by
  intro sg
  induction sg with
  | nil => intro i j b h; cases h
  | cons g t ih =>
    intro i j b h n h1 h2
    unfold an_jn at h
    unfold an_at
    cases hj : Nat.blt j g.1 with
    | true =>
      rw [hj] at h
      cases h
      have := Nat.blt_eq.mp hj
      rw [Nat.blt_eq.mpr (show n < g.1 by omega)]
      exact ⟨g.2, rfl, Int.le_refl _, Int.le_refl _⟩
    | false =>
      rw [hj] at h
      have hj := an_blt_f hj
      dsimp only [cond_false] at h
      cases hi : Nat.blt i g.1 with
      | true =>
        rw [hi] at h
        dsimp only [cond_true] at h
        split at h
        · rename_i b0 hb0
          cases h
          dsimp only
          have m1 := imin_le (a := g.2.1) (b := b0.1)
          have m2 := le_imax (a := g.2.2) (b := b0.2)
          cases hn : Nat.blt n g.1 with
          | true => exact ⟨g.2, rfl, m1.1, m2.1⟩
          | false =>
            have hn := an_blt_f hn
            obtain ⟨b', e1, e2, e3⟩ := ih 0 (j - g.1) b0 hb0 (n - g.1) (by omega) (by omega)
            exact ⟨b', e1, by omega, by omega⟩
        · cases h
      | false =>
        rw [hi] at h
        have hi := an_blt_f hi
        cases hn : Nat.blt n g.1 with
        | true => have := Nat.blt_eq.mp hn; omega
        | false => exact ih (i - g.1) (j - g.1) b h (n - g.1) (by omega) (by omega)
theorem an_fa_ok : ∀ (sg : List (Nat × Int × Int)) (i j : Nat) (v : Int × Int), an_fa sg i j v = true → ∀ n, i ≤ n → n ≤ j → ∃ b', an_at sg n = some b' ∧ b'.1 ≤ v.1 ∧ v.2 ≤ b'.2 := by
  intro sg
  induction sg with
  | nil => intro i j b h; cases h
  | cons g t ih =>
    intro i j v h n h1 h2
    unfold an_fa at h
    unfold an_at
    cases hj : Nat.blt j g.1 with
    | true =>
      rw [hj] at h
      dsimp only [cond_true] at h
      rw [Bool.and_eq_true, ile_iff, ile_iff] at h
      have := Nat.blt_eq.mp hj
      rw [Nat.blt_eq.mpr (show n < g.1 by omega)]
      exact ⟨g.2, rfl, h.1, h.2⟩
    | false =>
      rw [hj] at h
      have hj := an_blt_f hj
      dsimp only [cond_false] at h
      cases hi : Nat.blt i g.1 with
      | true =>
        rw [hi] at h
        dsimp only [cond_true] at h
        rw [Bool.and_eq_true, Bool.and_eq_true, ile_iff, ile_iff] at h
        cases hn : Nat.blt n g.1 with
        | true => exact ⟨g.2, rfl, h.1.1, h.1.2⟩
        | false =>
          have hn := an_blt_f hn
          exact ih 0 (j - g.1) v h.2 (n - g.1) (by omega) (by omega)
      | false =>
        rw [hi] at h
        have hi := an_blt_f hi
        cases hn : Nat.blt n g.1 with
        | true => have := Nat.blt_eq.mp hn; omega
        | false => exact ih (i - g.1) (j - g.1) v h (n - g.1) (by omega) (by omega)
theorem an_at_lt : ∀ (sg : List (Nat × Int × Int)) (n : Nat) (b : Int × Int), an_at sg n = some b → n < an_len sg := by
  intro sg
  induction sg with
  | nil => intro n b h; cases h
  | cons g t ih =>
    intro n b h
    unfold an_at at h
    unfold an_len
    cases hn : Nat.blt n g.1 with
    | true => have := Nat.blt_eq.mp hn; omega
    | false =>
      rw [hn] at h
      have := ih _ _ h
      have := an_blt_f hn
      omega
def an_rA (sg : List (Nat × Int × Int)) (l : List Int32) : Prop := l.length = an_len sg ∧ ∀ (i : Nat) (x : Int32) (b : Int × Int), l[i]? = some x → an_at sg i = some b → b.1 ≤ x.toInt ∧ x.toInt ≤ b.2
def an_rF (ρ : List Int) : List an_S → List Value → Prop
  | [], [] => True
  | a :: t, v :: u => an_rv ρ a v ∧ an_rF ρ t u
  | _, _ => False
def an_rC (ρ : List Int) (c : an_C) (d : sm_C) : Prop := match c, d with
  | .inl a, .inl (k, .inl l) => a.1 = k ∧ k ≠ 1 ∧ an_rA a.2 l
  | .inl a, .inl (k, .inr l) => a.1 = k ∧ k = 1 ∧ l.length = an_len a.2
  | .inr o, .inr p => o.1 = p.1 ∧ an_rF ρ o.2 p.2
  | _, _ => False
def an_rH (ρ : List Int) : an_H → sm_H → Prop
  | [], [] => True
  | c :: t, d :: u => an_rC ρ c d ∧ an_rH ρ t u
  | _, _ => False
section ANH
variable {ρ : List Int}
theorem an_rF_ext (r : List Int) : ∀ {as : List an_S} {vs : List Value}, an_rF ρ as vs → an_rF (ρ ++ r) as vs
  | [], [], _ => trivial
  | _ :: _, _ :: _, h => ⟨an_rv_ext r h.1, an_rF_ext r h.2⟩
  | [], _ :: _, h => h.elim
  | _ :: _, [], h => h.elim
theorem an_rF_get : ∀ {as : List an_S} {vs : List Value} {j : Nat} {a : an_S}, an_rF ρ as vs → as[j]? = some a → ∃ v, vs[j]? = some v ∧ an_rv ρ a v
  | a :: t, v :: u, 0, b, h, e => by cases e; exact ⟨v, rfl, h.1⟩
  | a :: t, v :: u, j + 1, b, h, e => an_rF_get (as := t) (vs := u) (j := j) h.2 e
  | [], [], _, _, _, e => by cases e
  | [], _ :: _, _, _, h, _ => h.elim
  | _ :: _, [], _, _, h, _ => h.elim
theorem an_rF_set : ∀ {as : List an_S} {vs : List Value} (j : Nat) {a : an_S} {v : Value}, an_rF ρ as vs → an_rv ρ a v → an_rF ρ (as.set j a) (vs.set j v)
  | a :: t, v :: u, 0, b, w, h, e => ⟨e, h.2⟩
  | a :: t, v :: u, j + 1, b, w, h, e => ⟨h.1, an_rF_set j h.2 e⟩
  | [], [], _, _, _, _, _ => trivial
  | [], _ :: _, _, _, _, h, _ => h.elim
  | _ :: _, [], _, _, _, h, _ => h.elim
theorem an_rF_len : ∀ {as : List an_S} {vs : List Value}, an_rF ρ as vs → as.length = vs.length
  | [], [], _ => rfl
  | a :: t, v :: u, h => by rw [List.length_cons, List.length_cons, an_rF_len h.2]
  | [], _ :: _, h => h.elim
  | _ :: _, [], h => h.elim
theorem an_rC_ext (r : List Int) {c : an_C} {d : sm_C} (h : an_rC ρ c d) : an_rC (ρ ++ r) c d := by
  unfold an_rC at h ⊢
  split at h
  · exact h
  · exact h
  · exact ⟨h.1, an_rF_ext r h.2⟩
  · exact h.elim
theorem an_rH_ext (r : List Int) : ∀ {H : an_H} {hp : sm_H}, an_rH ρ H hp → an_rH (ρ ++ r) H hp
  | [], [], _ => trivial
  | _ :: _, _ :: _, h => ⟨an_rC_ext r h.1, an_rH_ext r h.2⟩
  | [], _ :: _, h => h.elim
  | _ :: _, [], h => h.elim
theorem an_rH_get : ∀ {H : an_H} {hp : sm_H} {k : Nat} {c : an_C}, an_rH ρ H hp → H[k]? = some c → ∃ d, hp[k]? = some d ∧ an_rC ρ c d
  | a :: t, v :: u, 0, b, h, e => by cases e; exact ⟨v, rfl, h.1⟩
  | a :: t, v :: u, j + 1, b, h, e => an_rH_get (H := t) (hp := u) (k := j) h.2 e
  | [], [], _, _, _, e => by cases e
  | [], _ :: _, _, _, h, _ => h.elim
  | _ :: _, [], _, _, h, _ => h.elim
theorem an_rH_set : ∀ {H : an_H} {hp : sm_H} (k : Nat) {c : an_C} {d : sm_C}, an_rH ρ H hp → an_rC ρ c d → an_rH ρ (H.set k c) (hp.set k d)
  | a :: t, v :: u, 0, b, w, h, e => ⟨e, h.2⟩
  | a :: t, v :: u, j + 1, b, w, h, e => ⟨h.1, an_rH_set j h.2 e⟩
  | [], [], _, _, _, _, _ => trivial
  | [], _ :: _, _, _, _, h, _ => h.elim
  | _ :: _, [], _, _, _, h, _ => h.elim
/-- the abstract cell stays: only the array's contents change -/
theorem an_rH_arr : ∀ {H : an_H} {hp : sm_H} (k : Nat) {c : an_C} {d : sm_C}, an_rH ρ H hp → H[k]? = some c → an_rC ρ c d → an_rH ρ H (hp.set k d)
  | a :: t, v :: u, 0, b, w, h, e, f => by cases e; exact ⟨f, h.2⟩
  | a :: t, v :: u, j + 1, b, w, h, e, f => ⟨h.1, an_rH_arr (H := t) (hp := u) j h.2 e f⟩
  | [], [], _, _, _, _, e, _ => by cases e
  | [], _ :: _, _, _, _, h, _, _ => h.elim
  | _ :: _, [], _, _, _, h, _, _ => h.elim
end ANH
def an_rL (ρ : List Int) (ls : an_L) (lc : sm_L) : Prop := ls.length = lc.length ∧ ∀ (i : Nat) (a : an_S), ls[i]? = some (some a) → ∃ v, lc[i]? = some (some v) ∧ an_rv ρ a v
theorem an_rL_ext {ρ : List Int} (r : List Int) {ls : an_L} {lc : sm_L} (h : an_rL ρ ls lc) : an_rL (ρ ++ r) ls lc := ⟨h.1, fun i a e => by
  obtain ⟨v, h1, h2⟩ := h.2 i a e
  exact ⟨v, h1, an_rv_ext r h2⟩⟩
/-- the arrays that were not written are as they were -/
def an_rW (Wr : List Nat) (h0 hp : sm_H) : Prop := ∀ (k : Nat) (c : Nat × (List Int32 ⊕ List Int64)), h0[k]? = some (.inl c) → k ∉ Wr → hp[k]? = some (.inl c)
def an_rZ (ρ : List Int) (Z : an_Z) (h0 hp : sm_H) : Prop := an_rT Z.1 ρ ∧ an_rH ρ Z.2.1 hp ∧ an_rW Z.2.2 h0 hp
def an_isl (a : an_S) : Bool := match a with
  | .inr (.inr _) => true
  | _ => false
theorem an_isl_cat {ρ : List Int} {a : an_S} {v : Value} (h : an_rv ρ a v) : (an_isl a = true → v.category = 2) ∧ (an_isl a = false → v.category = 1) := by
  unfold an_rv at h
  unfold an_isl
  split at h
  · obtain ⟨x, h1, _⟩ := h; subst h1; exact ⟨fun z => (by cases z), fun _ => rfl⟩
  · obtain ⟨x, r, h1, _⟩ := h; subst h1; exact ⟨fun z => (by cases z), fun _ => rfl⟩
  · subst h; exact ⟨fun z => (by cases z), fun _ => rfl⟩
  · obtain ⟨y, h1⟩ := h; subst h1; exact ⟨fun _ => rfl, fun z => by cases z⟩
def an_clr (ls : an_L) (i : Nat) : an_L := match i with
  | 0 => ls
  | j + 1 => match ls[j]? with
    | some (some a) => cond (an_isl a) (ls.set j none) ls
    | _ => ls
def an_st1 (ls : an_L) (i : Nat) (a : an_S) : Option an_L := cond (Nat.blt i ls.length) (some ((an_clr ls i).set i (some a))) none
def an_st2 (ls : an_L) (i : Nat) (a : an_S) : Option an_L := cond (Nat.blt (i + 1) ls.length) (some (((an_clr ls i).set i (some a)).set (i + 1) none)) none
theorem an_clr_len (ls : an_L) (i : Nat) : (an_clr ls i).length = ls.length := by
  unfold an_clr
  split
  · rfl
  · split
    · rename_i a _
      cases an_isl a <;> simp
    · rfl
theorem an_clr_get {ls : an_L} {i j : Nat} {a : an_S} (h : (an_clr ls i)[j]? = some (some a)) : ls[j]? = some (some a) ∧ ¬ (j + 1 = i ∧ an_isl a = true) := by
  cases i with
  | zero => exact ⟨h, fun z => by omega⟩
  | succ k =>
    simp only [an_clr] at h
    split at h
    · rename_i u hu
      cases hl : an_isl u with
      | true =>
        rw [hl] at h
        dsimp only [cond_true] at h
        by_cases hj : k = j
        · subst hj
          rw [List.getElem?_set] at h
          simp at h
        · rw [List.getElem?_set, if_neg hj] at h
          exact ⟨h, fun z => hj (by omega)⟩
      | false =>
        rw [hl] at h
        dsimp only [cond_false] at h
        refine ⟨h, fun z => ?_⟩
        have hj : k = j := by omega
        subst hj
        rw [hu] at h
        cases h
        rw [hl] at z
        cases z.2
    · rename_i hn
      refine ⟨h, fun z => ?_⟩
      have hj : k = j := by omega
      subst hj
      exact hn _ h
/-- a local that isn't cleared is there still -/
theorem an_clr_c {ρ : List Int} {ls : an_L} {lc : sm_L} (h : an_rL ρ ls lc) {i j : Nat} {a : an_S} (e : (an_clr ls i)[j]? = some (some a)) : ∃ v, (sm_clr lc i)[j]? = some (some v) ∧ an_rv ρ a v := by
  obtain ⟨e1, e2⟩ := an_clr_get e
  obtain ⟨v, h1, h2⟩ := h.2 j a e1
  refine ⟨v, ?_, h2⟩
  unfold sm_clr
  split
  · exact h1
  · rename_i k
    split
    · rename_i w hw
      split
      · rename_i hc
        by_cases hj : k = j
        · subst hj
          rw [hw] at h1
          cases h1
          have : an_isl a = true := by
            cases hz : an_isl a with
            | true => rfl
            | false => rw [(an_isl_cat h2).2 hz] at hc; cases hc
          exact absurd ⟨rfl, this⟩ e2
        · rw [List.getElem?_set, if_neg hj]
          exact h1
      · exact h1
    · exact h1
theorem an_st1_ok {ρ : List Int} {ls ls' : an_L} {lc : sm_L} {i : Nat} {a : an_S} {v : Value} (h : an_rL ρ ls lc) (hv : an_rv ρ a v) (e : an_st1 ls i a = some ls') : ∃ lc', sm_st1 lc i v = some lc' ∧ an_rL ρ ls' lc' := by
  unfold an_st1 at e
  cases hb : Nat.blt i ls.length with
  | false => rw [hb] at e; cases e
  | true =>
    rw [hb] at e
    cases e
    have hlt := Nat.blt_eq.mp hb
    refine ⟨(sm_clr lc i).set i (some v), by unfold sm_st1; rw [if_pos (by rw [← h.1]; exact hlt)], by rw [List.length_set, List.length_set, an_clr_len, sm_clr_len]; exact h.1, fun j b ej => ?_⟩
    by_cases hj : i = j
    · subst hj
      rw [List.getElem?_set_self (by rw [an_clr_len]; exact hlt)] at ej
      cases ej
      exact ⟨v, List.getElem?_set_self (by rw [sm_clr_len, ← h.1]; exact hlt), hv⟩
    · rw [List.getElem?_set, if_neg hj] at ej
      rw [List.getElem?_set, if_neg hj]
      exact an_clr_c h ej
theorem an_st2_ok {ρ : List Int} {ls ls' : an_L} {lc : sm_L} {i : Nat} {a : an_S} {v : Value} (h : an_rL ρ ls lc) (hv : an_rv ρ a v) (e : an_st2 ls i a = some ls') : ∃ lc', sm_st2 lc i v = some lc' ∧ an_rL ρ ls' lc' := by
  unfold an_st2 at e
  cases hb : Nat.blt (i + 1) ls.length with
  | false => rw [hb] at e; cases e
  | true =>
    rw [hb] at e
    cases e
    have hlt := Nat.blt_eq.mp hb
    refine ⟨((sm_clr lc i).set i (some v)).set (i + 1) none, by unfold sm_st2; rw [if_pos (by rw [← h.1]; exact hlt)], by simp only [List.length_set, an_clr_len, sm_clr_len]; exact h.1, fun j b ej => ?_⟩
    by_cases h9 : i + 1 = j
    · subst h9
      rw [List.getElem?_set] at ej
      simp at ej
    rw [List.getElem?_set, if_neg h9] at ej
    rw [List.getElem?_set, if_neg h9]
    by_cases hj : i = j
    · subst hj
      rw [List.getElem?_set_self (by rw [an_clr_len]; omega)] at ej
      cases ej
      exact ⟨v, List.getElem?_set_self (by rw [sm_clr_len, ← h.1]; omega), hv⟩
    · rw [List.getElem?_set, if_neg hj] at ej
      rw [List.getElem?_set, if_neg hj]
      exact an_clr_c h ej
