/-! a RANKING is read on both sides in lock step: the pure part -/
noncomputable def exv : Nat → (Nat → Bool) → Bool
  | 0, _ => false
  | n + 1, f => exv n f || f n
theorem exv_iff {f : Nat → Bool} : ∀ (n : Nat), exv n f = true ↔ ∃ i, i < n ∧ f i = true
  | 0 => ⟨fun h => (by cases h), fun ⟨i, h, _⟩ => (by omega)⟩
  | n + 1 => by
    show (exv n f || f n) = true ↔ _
    rw [Bool.or_eq_true, exv_iff n]
    constructor
    · rintro (⟨i, h1, h2⟩ | h)
      · exact ⟨i, by omega, h2⟩
      · exact ⟨n, by omega, h⟩
    · rintro ⟨i, h1, h2⟩
      by_cases e : i = n
      · subst e; exact Or.inr h2
      · exact Or.inl ⟨i, by omega, h2⟩
/-- k letters are read: s which, P at which place, pn the last place, ab the ones ahead of it, ov the bits, sn how many places -/
noncomputable def JR (M k : Nat) (s ab ov : Nat → Bool) (pn sn : Nat) (P : Nat → Nat) : Prop :=
  (∀ i, M ≤ i → s i = false) ∧ cnt M s = k ∧ (∀ i, s i = true → P i ≤ pn) ∧ pn = cnt M (fun j => s j && decide (P j < pn)) ∧ (0 < k → ∃ i, s i = true ∧ P i = pn) ∧ (∀ j, ab j = (s j && decide (P j < pn))) ∧ (∀ i, i < 6 → ∀ j, j < 6 → ov (6 * i + j) = (s i && (s j && decide (P j < P i)))) ∧ (∀ t, 36 ≤ t → ov t = false) ∧ (∀ i, s i = true → P i = cnt M (fun j => s j && decide (P j < P i))) ∧ sn = cnt 6 (fun v => exv M (fun i => s i && decide (P i = v)))
section JRS
variable {M k pn sn i0 : Nat} {s ab ov : Nat → Bool} {P : Nat → Nat}
/-- a letter more, at place p -/
theorem JR_u {p : Nat} {ab' ov' : Nat → Bool} (hM : M ≤ 6) (h : JR M k s ab ov pn sn P) (hi : i0 < M) (hs : s i0 = false) (hle : ∀ i, s i = true → P i ≤ p) (hp : p = cnt M (fun j => s j && decide (P j < p))) (hab : ∀ j, ab' j = (s j && decide (P j < p))) (hov : ∀ t, ov' t = (ov t || (decide (6 * i0 ≤ t) && ab' (t - 6 * i0)))) {sn' : Nat} (hsn : sn' = cnt 6 (fun v => exv M (fun i => (s i || decide (i = i0)) && decide ((if i = i0 then p else P i) = v)))) : JR M (k + 1) (fun i => s i || decide (i = i0)) ab' ov' p sn' (fun i => if i = i0 then p else P i) := by
  obtain ⟨h1, h2, h3, h4, h5, h6, h7, h8, h9, h10⟩ := h
  have ab0 : ab' i0 = false := by rw [hab, hs]; rfl
  have abM : ∀ j, M ≤ j → ab' j = false := fun j hj => by rw [hab, h1 j hj]; rfl
  have cn : ∀ q, q ≤ p → cnt M (fun j => (s j || decide (j = i0)) && decide ((if j = i0 then p else P j) < q)) = cnt M (fun j => s j && decide (P j < q)) := fun q hq => cnt_congr M (fun j hj => by
    by_cases e : j = i0
    · subst e
      rw [if_pos rfl, hs, decide_eq_true rfl, decide_eq_false (show ¬ p < q by omega)]
      rfl
    · rw [if_neg e, decide_eq_false e, Bool.or_false])
  refine ⟨fun i hi' => ?_, ?_, fun i hi' => ?_, ?_, fun _ => ⟨i0, ?_, if_pos rfl⟩, fun j => ?_, fun i a1 j a2 => ?_, fun t ht => ?_, fun i hi' => ?_, hsn⟩
  · show (s i || decide (i = i0)) = false
    rw [h1 i hi', decide_eq_false (by omega)]
    rfl
  · rw [← h2]
    exact cnt_1 M hi hs (by rw [decide_eq_true rfl, Bool.or_true]) (fun i _ hn => by rw [decide_eq_false hn, Bool.or_false])
  · have hi' : (s i || decide (i = i0)) = true := hi'
    show (if i = i0 then p else P i) ≤ p
    by_cases e : i = i0
    · rw [if_pos e]; exact Nat.le_refl _
    · rw [if_neg e]
      rw [decide_eq_false e, Bool.or_false] at hi'
      exact hle i hi'
  · exact hp.trans (cn p (Nat.le_refl _)).symm
  · show (s i0 || decide (i0 = i0)) = true
    rw [decide_eq_true rfl, Bool.or_true]
  · show ab' j = ((s j || decide (j = i0)) && decide ((if j = i0 then p else P j) < p))
    rw [hab]
    by_cases e : j = i0
    · subst e
      rw [if_pos rfl, hs, decide_eq_false (Nat.lt_irrefl p), Bool.and_false]
      rfl
    · rw [if_neg e, decide_eq_false e, Bool.or_false]
  · show ov' (6 * i + j) = ((s i || decide (i = i0)) && ((s j || decide (j = i0)) && decide ((if j = i0 then p else P j) < (if i = i0 then p else P i))))
    rw [hov, h7 i a1 j a2]
    by_cases e : i = i0
    · subst e
      rw [hs, decide_eq_true (show 6 * i ≤ 6 * i + j by omega), show 6 * i + j - 6 * i = j by omega, decide_eq_true rfl, if_pos rfl, hab]
      by_cases e2 : j = i
      · subst e2
        rw [hs, if_pos rfl, decide_eq_false (Nat.lt_irrefl p), Bool.and_false]
        rfl
      · rw [if_neg e2, decide_eq_false e2, Bool.or_false]
        rfl
    · rw [if_neg e, decide_eq_false e, Bool.or_false]
      have z : (decide (6 * i0 ≤ 6 * i + j) && ab' (6 * i + j - 6 * i0)) = false := by
        by_cases e3 : 6 * i0 ≤ 6 * i + j
        · rw [abM (6 * i + j - 6 * i0) (by omega), Bool.and_false]
        · rw [decide_eq_false e3]
          rfl
      rw [z, Bool.or_false]
      by_cases e2 : j = i0
      · subst e2
        rw [if_pos rfl, hs]
        cases e4 : s i with
        | false => rfl
        | true =>
          have := hle i e4
          rw [decide_eq_false (show ¬ p < P i by omega), Bool.and_false]
          rfl
      · rw [if_neg e2, decide_eq_false e2, Bool.or_false]
  · rw [hov, h8 t ht]
    by_cases e3 : 6 * i0 ≤ t
    · rw [abM (t - 6 * i0) (by omega), Bool.and_false]
      rfl
    · rw [decide_eq_false e3]
      rfl
  · have hi' : (s i || decide (i = i0)) = true := hi'
    show (if i = i0 then p else P i) = cnt M (fun j => (s j || decide (j = i0)) && decide ((if j = i0 then p else P j) < (if i = i0 then p else P i)))
    by_cases e : i = i0
    · rw [if_pos e, cn p (Nat.le_refl _)]
      exact hp
    · rw [if_neg e]
      rw [decide_eq_false e, Bool.or_false] at hi'
      rw [cn (P i) (hle i hi')]
      exact h9 i hi'
theorem JR_like {ov' : Nat → Bool} (hM : M ≤ 6) (h : JR M k s ab ov pn sn P) (hk : 0 < k) (hi : i0 < M) (hs : s i0 = false) (hov : ∀ t, ov' t = (ov t || (decide (6 * i0 ≤ t) && ab (t - 6 * i0)))) : JR M (k + 1) (fun i => s i || decide (i = i0)) ab ov' pn sn (fun i => if i = i0 then pn else P i) := by
  have h' := h
  obtain ⟨h1, h2, h3, h4, h5, h6, h7, h8, h9, h10⟩ := h
  refine JR_u hM h' hi hs h3 h4 h6 hov ?_
  rw [h10]
  refine cnt_congr 6 (fun v _ => ?_)
  obtain ⟨a, a1, a2⟩ := h5 hk
  have aM : a < M := by
    by_cases e : a < M
    · exact e
    · rw [h1 a (by omega)] at a1; cases a1
  cases e : exv M (fun i => (s i || decide (i = i0)) && decide ((if i = i0 then pn else P i) = v)) with
  | true =>
    obtain ⟨i, b1, b2⟩ := (exv_iff M).mp e
    have b2 : ((s i || decide (i = i0)) && decide ((if i = i0 then pn else P i) = v)) = true := b2
    rw [Bool.and_eq_true, decide_eq_true_eq] at b2
    refine (exv_iff M).mpr ?_
    by_cases e2 : i = i0
    · rw [if_pos e2] at b2
      exact ⟨a, aM, by show (s a && decide (P a = v)) = true; rw [a1, a2, b2.2, decide_eq_true rfl]; rfl⟩
    · rw [if_neg e2, decide_eq_false e2, Bool.or_false] at b2
      exact ⟨i, b1, by show (s i && decide (P i = v)) = true; rw [b2.1, b2.2, decide_eq_true rfl]; rfl⟩
  | false =>
    cases e3 : exv M (fun i => s i && decide (P i = v)) with
    | false => rfl
    | true =>
      obtain ⟨i, b1, b2⟩ := (exv_iff M).mp e3
      have b2 : (s i && decide (P i = v)) = true := b2
      rw [Bool.and_eq_true, decide_eq_true_eq] at b2
      have ne : i ≠ i0 := fun z => by rw [z, hs] at b2; cases b2.1
      have := (exv_iff M (f := fun i => (s i || decide (i = i0)) && decide ((if i = i0 then pn else P i) = v))).mpr ⟨i, b1, by show ((s i || decide (i = i0)) && decide ((if i = i0 then pn else P i) = v)) = true; rw [if_neg ne, b2.1, b2.2, decide_eq_true rfl]; rfl⟩
      rw [this] at e
      cases e
theorem JR_lt (h : JR M k s ab ov pn sn P) : ∀ i, s i = true → P i < k := fun i hi => by
  obtain ⟨h1, h2, h3, h4, h5, h6, h7, h8, h9, h10⟩ := h
  have iM : ∀ i, s i = true → i < M := fun i hi => by
    by_cases e : i < M
    · exact e
    · rw [h1 i (by omega)] at hi; cases hi
  have h3i := h3 i hi
  have l : cnt M (fun j => s j && decide (P j < P i)) < cnt M s := cnt_lt (k := i) M (fun j _ hj => by
    rw [Bool.and_eq_true] at hj
    exact hj.1) (iM i hi) (by rw [hi, decide_eq_false (Nat.lt_irrefl _)]; rfl) hi
  have := h9 i hi
  omega
theorem JR_new {ov' : Nat → Bool} (hM : M ≤ 6) (h : JR M k s ab ov pn sn P) (hk : k < M) (hi : i0 < M) (hs : s i0 = false) (hov : ∀ t, ov' t = (ov t || (decide (6 * i0 ≤ t) && s (t - 6 * i0)))) : JR M (k + 1) (fun i => s i || decide (i = i0)) s ov' k (sn + 1) (fun i => if i = i0 then k else P i) := by
  have h' := h
  have lt := JR_lt h
  obtain ⟨h1, h2, h3, h4, h5, h6, h7, h8, h9, h10⟩ := h
  have sk : ∀ j, (s j && decide (P j < k)) = s j := fun j => by
    cases e : s j with
    | false => rfl
    | true => rw [decide_eq_true (lt j e)]; rfl
  refine JR_u hM h' hi hs (fun i hi => by have := lt i hi; omega) ?_ (fun j => (sk j).symm) hov ?_
  · rw [cnt_congr M (g := s) (fun j _ => sk j)]
    exact h2.symm
  · rw [h10]
    have old : ∀ v, v ≠ k → exv M (fun i => (s i || decide (i = i0)) && decide ((if i = i0 then k else P i) = v)) = exv M (fun i => s i && decide (P i = v)) := fun v hv => by
      have q : ∀ i, ((s i || decide (i = i0)) && decide ((if i = i0 then k else P i) = v)) = (s i && decide (P i = v)) := fun i => by
        by_cases e : i = i0
        · subst e
          rw [if_pos rfl, hs, decide_eq_false (show ¬ k = v from fun z => hv z.symm), Bool.and_false]
          rfl
        · rw [if_neg e, decide_eq_false e, Bool.or_false]
      rw [show (fun i => (s i || decide (i = i0)) && decide ((if i = i0 then k else P i) = v)) = (fun i => s i && decide (P i = v)) from funext q]
    refine (cnt_1 (k := k) 6 (by omega) ?_ ?_ (fun v _ hv => (old v hv).symm)).symm
    · cases e : exv M (fun i => s i && decide (P i = k)) with
      | false => rfl
      | true =>
        obtain ⟨i, b1, b2⟩ := (exv_iff M).mp e
        have b2 : (s i && decide (P i = k)) = true := b2
        rw [Bool.and_eq_true, decide_eq_true_eq] at b2
        have := lt i b2.1
        omega
    · exact (exv_iff M).mpr ⟨i0, hi, by show ((s i0 || decide (i0 = i0)) && decide ((if i0 = i0 then k else P i0) = k)) = true; rw [if_pos rfl, decide_eq_true rfl, decide_eq_true rfl, Bool.or_true]; rfl⟩
theorem JR_0 {M : Nat} {P : Nat → Nat} : JR M 0 (fun _ => false) (fun _ => false) (fun _ => false) 0 0 P := by
  refine ⟨fun _ _ => rfl, cnt_0 M, fun i h => (by cases h), (cnt_0 M).symm.trans (cnt_congr M (fun _ _ => rfl)), fun z => (by omega), fun _ => rfl, fun _ _ _ _ => rfl, fun _ _ => rfl, fun i h => (by cases h), ?_⟩
  refine ((cnt_congr 6 (g := fun _ => false) (fun v _ => ?_)).trans (cnt_0 6)).symm
  cases e : exv M (fun i => false && decide (P i = v)) with
  | false => rfl
  | true =>
    obtain ⟨i, b1, b2⟩ := (exv_iff M).mp e
    have b2 : (false && decide (P i = v)) = true := b2
    rw [Bool.false_and] at b2
    cases b2
/-- all letters: a ranking as both sides keep it -/
theorem JR_end {o : Int64} {p : Nat → Int32} (hM : M ≤ 6) (h : JR M M s ab (b64 o) pn sn P) (hp : ∀ i, i < M → p i = nI (P i)) (h0 : ∀ i, M ≤ i → i < 6 → p i = 0) : R3g M o p := by
  have lt := JR_lt h
  obtain ⟨h1, h2, h3, h4, h5, h6, h7, h8, h9, h10⟩ := h
  have all : ∀ i, i < M → s i = true := fun i hi => by
    cases e : s i with
    | true => rfl
    | false =>
      have := cnt_lt (f := s) (g := fun _ => true) (k := i) M (fun _ _ _ => rfl) hi e rfl
      have := cnt_n (f := fun _ => true) M
      omega
  have pt : ∀ i, i < M → (p i).toInt = (P i : Int) := fun i hi => by
    have := lt i (all i hi)
    rw [hp i hi, nI_toInt (by omega)]
  refine ⟨fun i hi j hj => ?_, h8, fun i hi => ?_, h0⟩
  · rw [h7 i hi j hj]
    by_cases e1 : i < M
    · rw [all i e1]
      by_cases e2 : j < M
      · rw [all j e2, Bool.true_and, Bool.true_and]
        refine decide_eq_decide.mpr ?_
        rw [pt i e1, pt j e2]
        exact ⟨fun z => ⟨e1, e2, by omega⟩, fun z => by omega⟩
      · rw [h1 j (by omega)]
        exact (decide_eq_false (fun z => e2 z.2.1)).symm
    · rw [h1 i (by omega)]
      exact (decide_eq_false (fun z => e1 z.1)).symm
  · rw [pt i hi, h9 i (all i hi)]
    refine congrArg _ (cnt_congr M (fun j hj => ?_))
    rw [all j hj, Bool.true_and]
    refine decide_eq_decide.mpr ?_
    rw [pt j hj]
    have e := pt i hi
    have e9 := h9 i (all i hi)
    rw [← e9]
    omega
end JRS
