/-! the law's text: a machine that reads it, pure -/
/-- a fault's code -/
noncomputable def eF (k : Int32) (p : Nat) : Int32 := ((-1000) * k) - nI p
theorem eF_0 : ∀ p, p < 301 → ¬ eF 1 p = 0 ∧ ¬ eF 2 p = 0 ∧ ¬ eF 4 p = 0 ∧ ¬ eF 5 p = 0 := by decide +kernel
/-- what stands at a place of the first n bytes -/
noncomputable def sG (tb : List Int32) (N p : Nat) : Int32 := if p < N then (tb.getD p 0) &&& 255 else -1
abbrev dG (x : Int32) : Prop := 48 ≤ x.toInt ∧ x.toInt ≤ 57
/-- a number of at most five digits -/
noncomputable def pN (s : Nat → Int32) : Nat → Nat → Nat → Nat ⊕ Int32
  | 0, _, p => .inl p
  | m + 1, d, p => if dG (s p) then (if d = 5 then .inr (eF 2 p) else pN s m (d + 1) (p + 1)) else .inl p
/-- ahead of a factor (false), behind one (true); how many are open, how many of them [ -/
noncomputable def mS (s : Nat → Int32) : Nat → Bool → Nat → Nat → Nat → Nat ⊕ Int32
  | 0, _, p, _, _ => .inl p
  | m + 1, false, p, o, b => if s p = 91 then (if o = 6 then .inr (eF 5 p) else mS s m false (p + 1) (o + 1) (b + 1)) else if dG (s p) then (match pN s 6 0 p with | .inl q => mS s m true q o b | .inr e => .inr e) else if km_factOf (s p) = -1 then .inr (eF 1 p) else mS s m true (p + 1) o b
  | m + 1, true, p, o, b => if km_sumSign (s p) = -1 then (if s p = 93 ∧ 0 < b then mS s m true (p + 1) (o - 1) (b - 1) else if 0 < b then .inr (eF 1 p) else .inl p) else mS s m false (p + 1) o b
noncomputable def rS (s : Nat → Int32) (N : Nat) (f : Bool) (p o b : Nat) : Nat ⊕ Int32 := mS s (N + 1 - p) f p o b
section PM
variable {s : Nat → Int32} {N : Nat}
theorem em_fact : km_factOf (-1) = -1 := by decide +kernel
theorem em_sign : km_sumSign (-1) = -1 := by decide +kernel
theorem in_of (hs : ∀ p, N ≤ p → s p = -1) {p : Nat} (h : ¬ s p = -1) : p < N := by
  by_cases c : p < N
  · exact c
  · exact absurd (hs p (by omega)) h
theorem dG_n {x : Int32} (h : dG x) : ¬ x = -1 := fun z => by
  rw [z] at h
  have e : (-1 : Int32).toInt = -1 := rfl
  have h : 48 ≤ (-1 : Int32).toInt ∧ (-1 : Int32).toInt ≤ 57 := h
  omega
theorem pN_le (hs : ∀ p, N ≤ p → s p = -1) : ∀ (m d p : Nat) {q : Nat}, p ≤ N → pN s m d p = .inl q → p ≤ q ∧ q ≤ N ∧ (0 < m → dG (s p) → p < q)
  | 0, d, p, q, hp, h => by
    have h : (.inl p : Nat ⊕ Int32) = .inl q := h
    injection h with h
    exact ⟨by omega, by omega, fun z => by omega⟩
  | m + 1, d, p, q, hp, h => by
    have h : (if dG (s p) then (if d = 5 then .inr (eF 2 p) else pN s m (d + 1) (p + 1)) else .inl p : Nat ⊕ Int32) = .inl q := h
    by_cases c : dG (s p)
    · rw [if_pos c] at h
      by_cases c2 : d = 5
      · rw [if_pos c2] at h
        cases h
      · rw [if_neg c2] at h
        have := in_of hs (dG_n c)
        obtain ⟨h1, h2, -⟩ := pN_le hs m (d + 1) (p + 1) (by omega) h
        exact ⟨by omega, h2, fun _ _ => by omega⟩
    · rw [if_neg c] at h
      injection h with h
      exact ⟨by omega, by omega, fun _ z => absurd z c⟩
theorem mS_fu (hs : ∀ p, N ≤ p → s p = -1) : ∀ (m m' : Nat) (f : Bool) (p o b : Nat), p ≤ N → N + 1 - p ≤ m → N + 1 - p ≤ m' → mS s m f p o b = mS s m' f p o b
  | 0, m', f, p, o, b, hp, h1, h2 => by omega
  | m + 1, 0, f, p, o, b, hp, h1, h2 => by omega
  | m + 1, m' + 1, false, p, o, b, hp, h1, h2 => by
    show (if s p = 91 then (if o = 6 then .inr (eF 5 p) else mS s m false (p + 1) (o + 1) (b + 1)) else if dG (s p) then (match pN s 6 0 p with | .inl q => mS s m true q o b | .inr e => .inr e) else if km_factOf (s p) = -1 then .inr (eF 1 p) else mS s m true (p + 1) o b : Nat ⊕ Int32) = (if s p = 91 then (if o = 6 then .inr (eF 5 p) else mS s m' false (p + 1) (o + 1) (b + 1)) else if dG (s p) then (match pN s 6 0 p with | .inl q => mS s m' true q o b | .inr e => .inr e) else if km_factOf (s p) = -1 then .inr (eF 1 p) else mS s m' true (p + 1) o b : Nat ⊕ Int32)
    by_cases c : s p = 91
    · rw [if_pos c, if_pos c]
      have := in_of hs (p := p) (by rw [c]; decide)
      by_cases c2 : o = 6
      · rw [if_pos c2, if_pos c2]
      · rw [if_neg c2, if_neg c2]
        exact mS_fu hs m m' false (p + 1) (o + 1) (b + 1) (by omega) (by omega) (by omega)
    · rw [if_neg c, if_neg c]
      by_cases d : dG (s p)
      · rw [if_pos d, if_pos d]
        cases e : pN s 6 0 p with
        | inr x => rfl
        | inl q =>
          obtain ⟨q1, q2, q3⟩ := pN_le hs 6 0 p hp e
          have := q3 (by omega) d
          exact mS_fu hs m m' true q o b q2 (by omega) (by omega)
      · rw [if_neg d, if_neg d]
        by_cases k : km_factOf (s p) = -1
        · rw [if_pos k, if_pos k]
        · rw [if_neg k, if_neg k]
          have := in_of hs (p := p) (fun z => k (by rw [z]; exact em_fact))
          exact mS_fu hs m m' true (p + 1) o b (by omega) (by omega) (by omega)
  | m + 1, m' + 1, true, p, o, b, hp, h1, h2 => by
    show (if km_sumSign (s p) = -1 then (if s p = 93 ∧ 0 < b then mS s m true (p + 1) (o - 1) (b - 1) else if 0 < b then .inr (eF 1 p) else .inl p) else mS s m false (p + 1) o b : Nat ⊕ Int32) = (if km_sumSign (s p) = -1 then (if s p = 93 ∧ 0 < b then mS s m' true (p + 1) (o - 1) (b - 1) else if 0 < b then .inr (eF 1 p) else .inl p) else mS s m' false (p + 1) o b : Nat ⊕ Int32)
    by_cases c : km_sumSign (s p) = -1
    · rw [if_pos c, if_pos c]
      by_cases d : s p = 93 ∧ 0 < b
      · rw [if_pos d, if_pos d]
        have := in_of hs (p := p) (by rw [d.1]; decide)
        exact mS_fu hs m m' true (p + 1) (o - 1) (b - 1) (by omega) (by omega) (by omega)
      · rw [if_neg d, if_neg d]
    · rw [if_neg c, if_neg c]
      have := in_of hs (p := p) (fun z => c (by rw [z]; exact em_sign))
      exact mS_fu hs m m' false (p + 1) o b (by omega) (by omega) (by omega)
theorem rS_F (hs : ∀ p, N ≤ p → s p = -1) {p : Nat} (hp : p ≤ N) (o b : Nat) : rS s N false p o b = if s p = 91 then (if o = 6 then .inr (eF 5 p) else rS s N false (p + 1) (o + 1) (b + 1)) else if dG (s p) then (match pN s 6 0 p with | .inl q => rS s N true q o b | .inr e => .inr e) else if km_factOf (s p) = -1 then .inr (eF 1 p) else rS s N true (p + 1) o b := by
  unfold rS
  obtain ⟨m, hm⟩ : ∃ m, N + 1 - p = m + 1 := ⟨N - p, by omega⟩
  rw [hm, show N + 1 - (p + 1) = m by omega]
  show (if s p = 91 then (if o = 6 then .inr (eF 5 p) else mS s m false (p + 1) (o + 1) (b + 1)) else if dG (s p) then (match pN s 6 0 p with | .inl q => mS s m true q o b | .inr e => .inr e) else if km_factOf (s p) = -1 then .inr (eF 1 p) else mS s m true (p + 1) o b : Nat ⊕ Int32) = _
  by_cases c : s p = 91
  · rw [if_pos c, if_pos c]
  · rw [if_neg c, if_neg c]
    by_cases d : dG (s p)
    · rw [if_pos d, if_pos d]
      cases e : pN s 6 0 p with
      | inr x => rfl
      | inl q =>
        obtain ⟨q1, q2, q3⟩ := pN_le hs 6 0 p hp e
        have := q3 (by omega) d
        exact mS_fu hs m (N + 1 - q) true q o b q2 (by omega) (by omega)
    · rw [if_neg d, if_neg d]
theorem rS_A {p : Nat} (hp : p ≤ N) (o b : Nat) : rS s N true p o b = if km_sumSign (s p) = -1 then (if s p = 93 ∧ 0 < b then rS s N true (p + 1) (o - 1) (b - 1) else if 0 < b then .inr (eF 1 p) else .inl p) else rS s N false (p + 1) o b := by
  unfold rS
  obtain ⟨m, hm⟩ : ∃ m, N + 1 - p = m + 1 := ⟨N - p, by omega⟩
  rw [hm, show N + 1 - (p + 1) = m by omega]
  rfl
/-- a condition: ahead of a piece (false), behind one (true); what is open: ! (true) or ( (false) -/
noncomputable def nots : List Bool → Nat
  | true :: K => nots K + 1
  | _ => 0
noncomputable def drops : List Bool → List Bool
  | true :: K => drops K
  | K => K
noncomputable def mC (s : Nat → Int32) (N : Nat) : Nat → Bool → Nat → Nat → List Bool → Nat ⊕ Int32
  | 0, _, p, _, _ => .inl p
  | m + 1, false, p, o, K => if s p = 33 then (if o = 6 then .inr (eF 5 p) else mC s N m false (p + 1) (o + 1) (true :: K)) else if s p = 40 then (if o = 6 then .inr (eF 5 p) else mC s N m false (p + 1) (o + 1) (false :: K)) else (match rS s N false p o 0 with | .inr e => .inr e | .inl q => if s q = 60 ∨ s q = 62 ∨ s q = 61 then (match rS s N false (q + 1) o 0 with | .inr e => .inr e | .inl q2 => mC s N m true q2 (o - nots K) (drops K)) else .inr (eF 1 q))
  | m + 1, true, p, o, K => if s p = 41 then (if K.tail = [] then .inl (p + 1) else mC s N m true (p + 1) (o - 1 - nots K.tail) (drops K.tail)) else if s p = 38 ∨ s p = 124 then mC s N m false (p + 1) o K else .inr (eF 1 p)
noncomputable def rC (s : Nat → Int32) (N : Nat) (f : Bool) (p o : Nat) (K : List Bool) : Nat ⊕ Int32 := mC s N (N + 1 - p) f p o K
theorem mS_le (hs : ∀ p, N ≤ p → s p = -1) : ∀ (m : Nat) (f : Bool) (p o b : Nat) {q : Nat}, p ≤ N → N + 1 - p ≤ m → mS s m f p o b = .inl q → p ≤ q ∧ q ≤ N ∧ (f = false → p < q)
  | 0, f, p, o, b, q, hp, h1, h => by omega
  | m + 1, false, p, o, b, q, hp, h1, h => by
    have h : (if s p = 91 then (if o = 6 then .inr (eF 5 p) else mS s m false (p + 1) (o + 1) (b + 1)) else if dG (s p) then (match pN s 6 0 p with | .inl q => mS s m true q o b | .inr e => .inr e) else if km_factOf (s p) = -1 then .inr (eF 1 p) else mS s m true (p + 1) o b : Nat ⊕ Int32) = .inl q := h
    by_cases c : s p = 91
    · rw [if_pos c] at h
      have := in_of hs (p := p) (by rw [c]; decide)
      by_cases c2 : o = 6
      · rw [if_pos c2] at h
        cases h
      · rw [if_neg c2] at h
        obtain ⟨h2, h3, -⟩ := mS_le hs m false (p + 1) (o + 1) (b + 1) (by omega) (by omega) h
        exact ⟨by omega, h3, fun _ => by omega⟩
    · rw [if_neg c] at h
      by_cases d : dG (s p)
      · rw [if_pos d] at h
        cases e : pN s 6 0 p with
        | inr x =>
          rw [e] at h
          cases h
        | inl q' =>
          rw [e] at h
          obtain ⟨q1, q2, q3⟩ := pN_le hs 6 0 p hp e
          have := q3 (by omega) d
          obtain ⟨h2, h3, -⟩ := mS_le hs m true q' o b q2 (by omega) h
          exact ⟨by omega, h3, fun _ => by omega⟩
      · rw [if_neg d] at h
        by_cases k : km_factOf (s p) = -1
        · rw [if_pos k] at h
          cases h
        · rw [if_neg k] at h
          have := in_of hs (p := p) (fun z => k (by rw [z]; exact em_fact))
          obtain ⟨h2, h3, -⟩ := mS_le hs m true (p + 1) o b (by omega) (by omega) h
          exact ⟨by omega, h3, fun _ => by omega⟩
  | m + 1, true, p, o, b, q, hp, h1, h => by
    have h : (if km_sumSign (s p) = -1 then (if s p = 93 ∧ 0 < b then mS s m true (p + 1) (o - 1) (b - 1) else if 0 < b then .inr (eF 1 p) else .inl p) else mS s m false (p + 1) o b : Nat ⊕ Int32) = .inl q := h
    by_cases c : km_sumSign (s p) = -1
    · rw [if_pos c] at h
      by_cases d : s p = 93 ∧ 0 < b
      · rw [if_pos d] at h
        have := in_of hs (p := p) (by rw [d.1]; decide)
        obtain ⟨h2, h3, -⟩ := mS_le hs m true (p + 1) (o - 1) (b - 1) (by omega) (by omega) h
        exact ⟨by omega, h3, fun z => by cases z⟩
      · rw [if_neg d] at h
        by_cases d2 : 0 < b
        · rw [if_pos d2] at h
          cases h
        · rw [if_neg d2] at h
          injection h with h
          exact ⟨by omega, by omega, fun z => by cases z⟩
    · rw [if_neg c] at h
      have := in_of hs (p := p) (fun z => c (by rw [z]; exact em_sign))
      obtain ⟨h2, h3, -⟩ := mS_le hs m false (p + 1) o b (by omega) (by omega) h
      exact ⟨by omega, h3, fun z => by cases z⟩
theorem rS_le (hs : ∀ p, N ≤ p → s p = -1) {f : Bool} {p o b q : Nat} (hp : p ≤ N) (h : rS s N f p o b = .inl q) : p ≤ q ∧ q ≤ N ∧ (f = false → p < q) := mS_le hs (N + 1 - p) f p o b hp (Nat.le_refl _) h
theorem mC_fu (hs : ∀ p, N ≤ p → s p = -1) : ∀ (m m' : Nat) (f : Bool) (p o : Nat) (K : List Bool), p ≤ N → N + 1 - p ≤ m → N + 1 - p ≤ m' → mC s N m f p o K = mC s N m' f p o K
  | 0, m', f, p, o, K, hp, h1, h2 => by omega
  | m + 1, 0, f, p, o, K, hp, h1, h2 => by omega
  | m + 1, m' + 1, false, p, o, K, hp, h1, h2 => by
    show (if s p = 33 then (if o = 6 then .inr (eF 5 p) else mC s N m false (p + 1) (o + 1) (true :: K)) else if s p = 40 then (if o = 6 then .inr (eF 5 p) else mC s N m false (p + 1) (o + 1) (false :: K)) else (match rS s N false p o 0 with | .inr e => .inr e | .inl q => if s q = 60 ∨ s q = 62 ∨ s q = 61 then (match rS s N false (q + 1) o 0 with | .inr e => .inr e | .inl q2 => mC s N m true q2 (o - nots K) (drops K)) else .inr (eF 1 q)) : Nat ⊕ Int32) = (if s p = 33 then (if o = 6 then .inr (eF 5 p) else mC s N m' false (p + 1) (o + 1) (true :: K)) else if s p = 40 then (if o = 6 then .inr (eF 5 p) else mC s N m' false (p + 1) (o + 1) (false :: K)) else (match rS s N false p o 0 with | .inr e => .inr e | .inl q => if s q = 60 ∨ s q = 62 ∨ s q = 61 then (match rS s N false (q + 1) o 0 with | .inr e => .inr e | .inl q2 => mC s N m' true q2 (o - nots K) (drops K)) else .inr (eF 1 q)) : Nat ⊕ Int32)
    by_cases c : s p = 33
    · rw [if_pos c, if_pos c]
      have := in_of hs (p := p) (by rw [c]; decide)
      rw [mC_fu hs m m' false (p + 1) (o + 1) (true :: K) (by omega) (by omega) (by omega)]
    · rw [if_neg c, if_neg c]
      by_cases c2 : s p = 40
      · rw [if_pos c2, if_pos c2]
        have := in_of hs (p := p) (by rw [c2]; decide)
        rw [mC_fu hs m m' false (p + 1) (o + 1) (false :: K) (by omega) (by omega) (by omega)]
      · rw [if_neg c2, if_neg c2]
        cases e : rS s N false p o 0 with
        | inr x => rfl
        | inl q =>
          obtain ⟨-, l1, l2⟩ := rS_le hs hp e
          have l2 := l2 rfl
          show (if s q = 60 ∨ s q = 62 ∨ s q = 61 then (match rS s N false (q + 1) o 0 with | .inr e => .inr e | .inl q2 => mC s N m true q2 (o - nots K) (drops K)) else .inr (eF 1 q) : Nat ⊕ Int32) = (if s q = 60 ∨ s q = 62 ∨ s q = 61 then (match rS s N false (q + 1) o 0 with | .inr e => .inr e | .inl q2 => mC s N m' true q2 (o - nots K) (drops K)) else .inr (eF 1 q) : Nat ⊕ Int32)
          by_cases d : s q = 60 ∨ s q = 62 ∨ s q = 61
          · rw [if_pos d, if_pos d]
            have := in_of hs (p := q) (fun z => by rw [z] at d; rcases d with d | d | d <;> exact absurd d (by decide))
            cases e2 : rS s N false (q + 1) o 0 with
            | inr x => rfl
            | inl q2 =>
              obtain ⟨l3, l4, -⟩ := rS_le hs (by omega) e2
              exact mC_fu hs m m' true q2 (o - nots K) (drops K) l4 (by omega) (by omega)
          · rw [if_neg d, if_neg d]
  | m + 1, m' + 1, true, p, o, K, hp, h1, h2 => by
    show (if s p = 41 then (if K.tail = [] then .inl (p + 1) else mC s N m true (p + 1) (o - 1 - nots K.tail) (drops K.tail)) else if s p = 38 ∨ s p = 124 then mC s N m false (p + 1) o K else .inr (eF 1 p) : Nat ⊕ Int32) = (if s p = 41 then (if K.tail = [] then .inl (p + 1) else mC s N m' true (p + 1) (o - 1 - nots K.tail) (drops K.tail)) else if s p = 38 ∨ s p = 124 then mC s N m' false (p + 1) o K else .inr (eF 1 p) : Nat ⊕ Int32)
    by_cases c : s p = 41
    · rw [if_pos c, if_pos c]
      have := in_of hs (p := p) (by rw [c]; decide)
      rw [mC_fu hs m m' true (p + 1) (o - 1 - nots K.tail) (drops K.tail) (by omega) (by omega) (by omega)]
    · rw [if_neg c, if_neg c]
      by_cases d : s p = 38 ∨ s p = 124
      · rw [if_pos d, if_pos d]
        have := in_of hs (p := p) (fun z => by rw [z] at d; rcases d with d | d <;> exact absurd d (by decide))
        exact mC_fu hs m m' false (p + 1) o K (by omega) (by omega) (by omega)
      · rw [if_neg d, if_neg d]
theorem rC_B (hs : ∀ p, N ≤ p → s p = -1) {p : Nat} (hp : p ≤ N) (o : Nat) (K : List Bool) : rC s N false p o K = if s p = 33 then (if o = 6 then .inr (eF 5 p) else rC s N false (p + 1) (o + 1) (true :: K)) else if s p = 40 then (if o = 6 then .inr (eF 5 p) else rC s N false (p + 1) (o + 1) (false :: K)) else (match rS s N false p o 0 with | .inr e => .inr e | .inl q => if s q = 60 ∨ s q = 62 ∨ s q = 61 then (match rS s N false (q + 1) o 0 with | .inr e => .inr e | .inl q2 => rC s N true q2 (o - nots K) (drops K)) else .inr (eF 1 q)) := by
  unfold rC
  obtain ⟨m, hm⟩ : ∃ m, N + 1 - p = m + 1 := ⟨N - p, by omega⟩
  rw [hm, show N + 1 - (p + 1) = m by omega]
  show (if s p = 33 then (if o = 6 then .inr (eF 5 p) else mC s N m false (p + 1) (o + 1) (true :: K)) else if s p = 40 then (if o = 6 then .inr (eF 5 p) else mC s N m false (p + 1) (o + 1) (false :: K)) else (match rS s N false p o 0 with | .inr e => .inr e | .inl q => if s q = 60 ∨ s q = 62 ∨ s q = 61 then (match rS s N false (q + 1) o 0 with | .inr e => .inr e | .inl q2 => mC s N m true q2 (o - nots K) (drops K)) else .inr (eF 1 q)) : Nat ⊕ Int32) = _
  by_cases c : s p = 33
  · rw [if_pos c, if_pos c]
  · rw [if_neg c, if_neg c]
    by_cases c2 : s p = 40
    · rw [if_pos c2, if_pos c2]
    · rw [if_neg c2, if_neg c2]
      cases e : rS s N false p o 0 with
      | inr x => rfl
      | inl q =>
        obtain ⟨-, l1, l2⟩ := rS_le hs hp e
        have l2 := l2 rfl
        show (if s q = 60 ∨ s q = 62 ∨ s q = 61 then (match rS s N false (q + 1) o 0 with | .inr e => .inr e | .inl q2 => mC s N m true q2 (o - nots K) (drops K)) else .inr (eF 1 q) : Nat ⊕ Int32) = (if s q = 60 ∨ s q = 62 ∨ s q = 61 then (match rS s N false (q + 1) o 0 with | .inr e => .inr e | .inl q2 => mC s N (N + 1 - q2) true q2 (o - nots K) (drops K)) else .inr (eF 1 q) : Nat ⊕ Int32)
        by_cases d : s q = 60 ∨ s q = 62 ∨ s q = 61
        · rw [if_pos d, if_pos d]
          have := in_of hs (p := q) (fun z => by rw [z] at d; rcases d with d | d | d <;> exact absurd d (by decide))
          cases e2 : rS s N false (q + 1) o 0 with
          | inr x => rfl
          | inl q2 =>
            obtain ⟨l3, l4, -⟩ := rS_le hs (by omega) e2
            exact mC_fu hs m (N + 1 - q2) true q2 (o - nots K) (drops K) l4 (by omega) (by omega)
        · rw [if_neg d, if_neg d]
theorem rC_C {p : Nat} (hp : p ≤ N) (o : Nat) (K : List Bool) : rC s N true p o K = if s p = 41 then (if K.tail = [] then .inl (p + 1) else rC s N true (p + 1) (o - 1 - nots K.tail) (drops K.tail)) else if s p = 38 ∨ s p = 124 then rC s N false (p + 1) o K else .inr (eF 1 p) := by
  unfold rC
  obtain ⟨m, hm⟩ : ∃ m, N + 1 - p = m + 1 := ⟨N - p, by omega⟩
  rw [hm, show N + 1 - (p + 1) = m by omega]
  rfl
/-- a condition from its ( on -/
noncomputable def cS (s : Nat → Int32) (N p : Nat) : Nat ⊕ Int32 := if s p = 40 then rC s N false (p + 1) 1 [false] else .inr (eF 1 p)
/-- the rule of number r -/
noncomputable def uS (s : Nat → Int32) (N p r : Nat) : Nat ⊕ Int32 := if s p = 101 ∨ s p = 107 ∨ s p = 100 ∨ s p = 120 then (if r = 16 then .inr (eF 4 p) else if s p = 120 then cS s N (p + 1) else (match rS s N false (p + 1) 0 0 with | .inr e => .inr e | .inl q => cS s N q)) else .inr (eF 1 p)
/-- the law from the rule of number r on -/
noncomputable def lS (s : Nat → Int32) (N : Nat) : Nat → Nat → Nat → Int32
  | 0, _, _ => 0
  | m + 1, r, p => match uS s N p r with
    | .inr e => e
    | .inl q => if s q = -1 then nI (r + 1) else if s q = 59 then lS s N m (r + 1) (q + 1) else eF 1 q
end PM
