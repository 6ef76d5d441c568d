/-! the law's text: conditions, the reference reads as the machine does -/
/-- what waits in a condition: ! 10, jumps 11 and 12 (never on a !), ( 13; the first one is a ( -/
noncomputable def wfT : List Nat → Prop
  | [] => False
  | k :: T => (T = [] ∧ k = 13) ∨ (wfT T ∧ (k = 10 ∨ k = 13 ∨ ((k = 11 ∨ k = 12) ∧ ¬ T.head? = some 10)))
noncomputable def kf : List Nat → List Bool
  | [] => []
  | k :: T => if k = 10 then true :: kf T else if k = 13 then false :: kf T else kf T
theorem wf_k {k : Nat} {T : List Nat} (h : wfT (k :: T)) : 10 ≤ k ∧ k ≤ 13 := by
  rcases h with ⟨-, h⟩ | ⟨-, h | h | ⟨h | h, -⟩⟩ <;> omega
theorem wf_noOp {T : List Nat} (h : wfT T) : noOp T := by
  cases T with
  | nil => exact Or.inl rfl
  | cons k T =>
    have := wf_k h
    exact Or.inr ⟨k, T, rfl, by omega, fun z => by unfold isOp at z; omega⟩
theorem wf_tl {k : Nat} {T : List Nat} (h : wfT (k :: T)) (hk : ¬ k = 13) : wfT T := by
  rcases h with ⟨-, h⟩ | ⟨h, -⟩
  · exact absurd h hk
  · exact h
theorem kf_ne : ∀ {T : List Nat}, wfT T → kf T ≠ []
  | [], h => h.elim
  | k :: T, h => by
    show (if k = 10 then true :: kf T else if k = 13 then false :: kf T else kf T) ≠ []
    by_cases c : k = 10
    · rw [if_pos c]
      exact List.cons_ne_nil _ _
    · rw [if_neg c]
      by_cases d : k = 13
      · rw [if_pos d]
        exact List.cons_ne_nil _ _
      · rw [if_neg d]
        exact kf_ne (wf_tl h d)
theorem kf_hd : ∀ {T : List Nat}, wfT T → ¬ T.head? = some 10 → nots (kf T) = 0 ∧ drops (kf T) = kf T
  | [], h, _ => h.elim
  | k :: T, h, hh => by
    have c : ¬ k = 10 := fun z => hh (by rw [z]; rfl)
    have e : kf (k :: T) = if k = 13 then false :: kf T else kf T := if_neg c
    rw [e]
    by_cases d : k = 13
    · rw [if_pos d]
      exact ⟨rfl, rfl⟩
    · rw [if_neg d]
      refine kf_hd (wf_tl h d) ?_
      rcases h with ⟨-, h⟩ | ⟨-, h | h | ⟨-, h⟩⟩
      · exact absurd h d
      · exact absurd h c
      · exact absurd h d
      · exact h
theorem nots_le : ∀ K : List Bool, nots K ≤ K.length ∧ (drops K).length = K.length - nots K
  | [] => ⟨Nat.le_refl _, rfl⟩
  | true :: K => by
    obtain ⟨h1, h2⟩ := nots_le K
    refine ⟨?_, ?_⟩
    · show nots K + 1 ≤ K.length + 1
      omega
    · show (drops K).length = K.length + 1 - (nots K + 1)
      omega
  | false :: K => ⟨Nat.zero_le _, rfl⟩
theorem m_enp {a : List Int32} : ∀ (T : List Nat) (m o c : Nat) (a72 : List Int32), wfT T → PS T a → T.length < m → T.length < 1000 → nots (kf T) ≤ o → o < 1000 → c + T.length < 100000 → ∃ (T1 : List Nat) (c1 : Nat) (b72 : List Int32), km_endsPiece_0 a m (nI o) (nI c) (nI T.length) a72 = (nI (o - nots (kf T)), nI c1, nI T1.length, b72) ∧ wfT T1 ∧ ¬ T1.head? = some 10 ∧ kf T1 = drops (kf T) ∧ c1 + ctn T1 = c + ctn T ∧ PS T1 a ∧ T1.length ≤ T.length
  | [], m, o, c, a72, h, _, _, _, _, _, _ => h.elim
  | k :: T, 0, o, c, a72, h, hp, hm, _, _, _, _ => by omega
  | k :: T, m + 1, o, c, a72, h, hp, hm, hl, hn, ho, hc => by
    have hm : T.length + 1 < m + 1 := hm
    have hl : T.length + 1 < 1000 := hl
    have hc : c + (T.length + 1) < 100000 := hc
    have wk := wf_k h
    have e : km_waitTop (nI (T.length + 1)) a = nI k := wt_c hp (by omega)
    show ∃ (T1 : List Nat) (c1 : Nat) (b72 : List Int32), km_endsPiece_0 a (m + 1) (nI o) (nI c) (nI (T.length + 1)) a72 = _ ∧ _
    rw [e_km_endsPiece_0, e]
    by_cases k10 : k = 10
    · subst k10
      have ek : kf (10 :: T) = true :: kf T := rfl
      have en : nots (kf (10 :: T)) = nots (kf T) + 1 := rfl
      rw [if_pos (show nI 10 = 10 from rfl)]
      have e2 : nI o - 1 = nI (o - 1) := by
        rw [show o = o - 1 + 1 by omega, nI_p1 (by omega), show o - 1 + 1 - 1 = o - 1 by omega]
      have e3 : (km_notes (nI c) a72 10 0).1 = nI (c + 1) := nJ_1 (n := c) (by omega)
      rw [e2, e3, nI_p1 (by omega)]
      obtain ⟨T1, c1, b72, h1, h2, h3, h4, h5, h6, h7⟩ := m_enp T m (o - 1) (c + 1) (km_notes (nI c) a72 10 0).2 (wf_tl h (by omega)) hp.2 (by omega) (by omega) (by omega) (by omega) (by omega)
      refine ⟨T1, c1, b72, ?_, h2, h3, h4, ?_, h6, by show T1.length ≤ T.length + 1; omega⟩
      · rw [h1, en, show o - 1 - nots (kf T) = o - (nots (kf T) + 1) by omega]
      · have e4 : ctn (10 :: T) = ctn T + 1 := rfl
        omega
    · have hh : ¬ (k :: T).head? = some 10 := fun z => by
        have z : some k = some 10 := z
        injection z with z
        exact k10 z
      obtain ⟨q1, q2⟩ := kf_hd h hh
      rw [if_neg (show ¬ nI k = 10 from fun z => k10 (nJ_inj (m := k) (n := 10) (by omega) (by omega) z))]
      refine ⟨k :: T, c, a72, ?_, h, hh, q2.symm, rfl, hp, Nat.le_refl _⟩
      rw [q1]
      rfl
theorem m_enp' {a : List Int32} {T : List Nat} {f o c : Nat} {a72 : List Int32} (hf : 300 ≤ f) (h : wfT T) (hp : PS T a) (hl : T.length ≤ 250) (hn : nots (kf T) ≤ o) (ho : o < 1000) (hc : c < 1000) : ∃ (T1 : List Nat) (c1 : Nat) (b72 : List Int32), km_endsPiece f (nI o) (nI c) (nI T.length) a72 a = (nI (o - nots (kf T)), nI c1, nI T1.length, b72) ∧ wfT T1 ∧ ¬ T1.head? = some 10 ∧ kf T1 = drops (kf T) ∧ c1 + ctn T1 = c + ctn T ∧ PS T1 a ∧ T1.length ≤ T.length := by
  obtain ⟨T1, c1, b72, h1, h2⟩ := m_enp T f o c a72 h hp (by omega) (by omega) hn ho (by omega)
  refine ⟨T1, c1, b72, ?_, h2⟩
  unfold km_endsPiece
  rw [h1]
theorem m_lan {a : List Int32} {x f14 : Int32} (hx : x = 0 ∨ x = 1) : ∀ (T : List Nat) (m : Nat) (a72 : List Int32), wfT T → ¬ T.head? = some 10 → PS T a → T.length < m → T.length < 1000 → ∃ (T1 : List Nat) (b72 : List Int32), km_lands_0 f14 a x m (nI T.length) a72 = (nI T1.length, b72) ∧ wfT T1 ∧ ¬ T1.head? = some 10 ∧ (x = 1 → T1.head? = some 13) ∧ kf T1 = kf T ∧ ctn T1 = ctn T ∧ PS T1 a ∧ T1.length ≤ T.length
  | [], m, a72, h, _, _, _, _ => h.elim
  | k :: T, 0, a72, h, hh, hp, hm, hl => by omega
  | k :: T, m + 1, a72, h, hh, hp, hm, hl => by
    have hm : T.length + 1 < m + 1 := hm
    have hl : T.length + 1 < 1000 := hl
    have wk := wf_k h
    have k10 : ¬ k = 10 := fun z => hh (by rw [z]; rfl)
    have e : km_waitTop (nI (T.length + 1)) a = nI k := wt_c hp (by omega)
    have rek : (k = 11 ∨ k = 12) → ∀ b72, ∃ (T1 : List Nat) (d72 : List Int32), km_lands_0 f14 a x m (nI (T.length + 1) - 1) b72 = (nI T1.length, d72) ∧ wfT T1 ∧ ¬ T1.head? = some 10 ∧ (x = 1 → T1.head? = some 13) ∧ kf T1 = kf (k :: T) ∧ ctn T1 = ctn (k :: T) ∧ PS T1 a ∧ T1.length ≤ (k :: T).length := fun hk b72 => by
      rw [nI_p1 (by omega)]
      have hT := wf_tl h (by omega)
      have h10 : ¬ T.head? = some 10 := by
        rcases h with ⟨-, h⟩ | ⟨-, h | h | ⟨-, h⟩⟩
        · omega
        · omega
        · omega
        · exact h
      obtain ⟨T1, d72, h1, h2, h3, h4, h5, h6, h7, h8⟩ := m_lan hx T m b72 hT h10 hp.2 (by omega) (by omega)
      refine ⟨T1, d72, h1, h2, h3, h4, ?_, ?_, h7, by show T1.length ≤ T.length + 1; omega⟩
      · rw [h5]
        show kf T = (if k = 10 then true :: kf T else if k = 13 then false :: kf T else kf T)
        rw [if_neg k10, if_neg (by omega)]
      · rw [h6]
        show ctn T = ctn T + (if k ≤ 10 then 1 else 0)
        rw [if_neg (by omega)]
        rfl
    have stay : (k = 13 ∨ (k = 12 ∧ x = 0)) → ∃ (T1 : List Nat) (d72 : List Int32), (nI (T.length + 1), a72) = (nI T1.length, d72) ∧ wfT T1 ∧ ¬ T1.head? = some 10 ∧ (x = 1 → T1.head? = some 13) ∧ kf T1 = kf (k :: T) ∧ ctn T1 = ctn (k :: T) ∧ PS T1 a ∧ T1.length ≤ (k :: T).length := fun hk => ⟨k :: T, a72, rfl, h, hh, fun z => by
      rcases hk with hk | ⟨-, hk⟩
      · rw [hk]; rfl
      · rw [hk] at z
        exact absurd z (by decide), rfl, rfl, hp, Nat.le_refl _⟩
    show ∃ (T1 : List Nat) (b72 : List Int32), km_lands_0 f14 a x (m + 1) (nI (T.length + 1)) a72 = (nI T1.length, b72) ∧ _
    rw [e_km_lands_0, e]
    have nk : ∀ j : Nat, j < 100 → (nI k = nI j ↔ k = j) := fun j hj => ⟨fun z => nJ_inj (by omega) (by omega) z, fun z => by rw [z]⟩
    by_cases k11 : k = 11
    · rw [if_pos (show nI k = 11 from (nk 11 (by omega)).mpr k11)]
      exact rek (Or.inl k11) _
    · rw [if_neg (show ¬ nI k = 11 from fun z => k11 ((nk 11 (by omega)).mp z))]
      by_cases x0 : x = 0
      · rw [if_pos x0]
        exact stay (by
          by_cases w : k = 12
          · exact Or.inr ⟨w, x0⟩
          · exact Or.inl (by omega))
      · rw [if_neg x0]
        by_cases k12 : k = 12
        · rw [if_pos (show nI k = 12 from (nk 12 (by omega)).mpr k12)]
          exact rek (Or.inr k12) _
        · rw [if_neg (show ¬ nI k = 12 from fun z => k12 ((nk 12 (by omega)).mp z))]
          exact stay (Or.inl (by omega))
theorem m_lan' {a : List Int32} {T : List Nat} {f : Nat} {x f14 : Int32} {a72 : List Int32} (hf : 300 ≤ f) (hx : x = 0 ∨ x = 1) (h : wfT T) (hh : ¬ T.head? = some 10) (hp : PS T a) (hl : T.length ≤ 250) : ∃ (T1 : List Nat) (b72 : List Int32), km_lands f f14 (nI T.length) a72 a x = (nI T1.length, b72) ∧ wfT T1 ∧ ¬ T1.head? = some 10 ∧ (x = 1 → T1.head? = some 13) ∧ kf T1 = kf T ∧ ctn T1 = ctn T ∧ PS T1 a ∧ T1.length ≤ T.length := by
  obtain ⟨T1, b72, h1, h2⟩ := m_lan (f14 := f14) hx T f a72 h hh hp (by omega) (by omega)
  refine ⟨T1, b72, ?_, h2⟩
  unfold km_lands
  rw [h1]
theorem kv_2 : ∀ c, c < 260 → (1048576 * 11 + nI c) / 1048576 = nI 11 ∧ (1048576 * 12 + nI c) / 1048576 = nI 12 := by decide +kernel
section MC
variable {N : Nat} {tb : List Int32}
/-- what two sums compared say -/
noncomputable def cmS (s : Nat → Int32) (N p o : Nat) : Nat ⊕ Int32 := match rS s N false p o 0 with
  | .inr e => .inr e
  | .inl q => if s q = 60 ∨ s q = 62 ∨ s q = 61 then rS s N false (q + 1) o 0 else .inr (eF 1 q)
/-- how a piece ends -/
noncomputable def oC (p : Nat) (N : Nat) (T : List Nat) (fl : Int32) (spec : Nat ⊕ Int32) (R : R9) : Prop := (∃ (q : Nat) (T1 : List Nat) (c1 : Nat), spec = .inl q ∧ p < q ∧ q ≤ N ∧ R.1 = 1 ∧ R.2.1 = nI q ∧ R.2.2.1 = fl ∧ R.2.2.2.2.1 = nI (kf T1).length ∧ R.2.2.2.2.2.1 = nI c1 ∧ c1 + ctn T1 ≤ q ∧ R.2.2.2.2.2.2.1 = nI T1.length ∧ PS T1 R.2.2.2.2.2.2.2.2 ∧ R.2.2.2.2.2.2.2.2.length = 260 ∧ wfT T1 ∧ ¬ T1.head? = some 10 ∧ kf T1 = drops (kf T) ∧ T1.length ≤ T.length) ∨ (spec = .inr R.2.2.1 ∧ R.1 = 0)
theorem m_cmp (hN : N ≤ 240) {f : Nat} (hf : 300 ≤ f) {T : List Nat} (hT : wfT T) {p c : Nat} {fl n12 : Int32} {a72 a73 : List Int32} {R : R9} (hp : p ≤ N) (ho : (kf T).length ≤ 6) (hc : c + ctn T ≤ p) (hl : T.length ≤ p) (hP : PS T a73) (h260 : a73.length = 260) (hR : R = km_readsCompared f (nI p) (nI N) fl n12 (nI (kf T).length) (nI c) (nI T.length) tb a72 a73) : oC p N T fl (cmS (sG tb N) N p (kf T).length) R := by
  unfold km_readsCompared at hR
  rw [lt_e] at hR
  generalize hX : km_readsSum f (nI p) (nI N) fl n12 (nI (kf T).length) (nI c) (nI T.length) tb a72 a73 = X at hR
  obtain ⟨nl1, nl2⟩ := nots_le (kf T)
  unfold cmS
  rcases m_sum (e := 0) hN hf (wf_noOp hT) hp ho hc hl hP h260 hX.symm with ⟨q, c1, h1, h2, h3, h4, h5, h6, h7, h8, h9, h10⟩ | ⟨h1, h2⟩
  · obtain ⟨-, q1, q2⟩ := rS_le sG_e hp h1
    have q2 := q2 rfl
    rw [h1]
    show oC p N T fl (if sG tb N q = 60 ∨ sG tb N q = 62 ∨ sG tb N q = 61 then rS (sG tb N) N false (q + 1) (kf T).length 0 else .inr (eF 1 q)) R
    rw [if_neg (by rw [h2]; decide), lt_e, h3, he_s hN q1] at hR
    have go : ∀ (how : Int32) (Y : R9), (sG tb N q = 60 ∨ sG tb N q = 62 ∨ sG tb N q = 61) → Y = km_readsSum f (nI q + 1) (nI N) X.2.2.1 X.2.2.2.1 X.2.2.2.2.1 X.2.2.2.2.2.1 X.2.2.2.2.2.2.1 tb X.2.2.2.2.2.2.2.1 X.2.2.2.2.2.2.2.2 → R = (if Y.1 = 0 then (0, Y.2.1, Y.2.2.1, Y.2.2.2.1, Y.2.2.2.2.1, Y.2.2.2.2.2.1, Y.2.2.2.2.2.2.1, Y.2.2.2.2.2.2.2.1, Y.2.2.2.2.2.2.2.2) else (lt (km_notes Y.2.2.2.2.2.1 Y.2.2.2.2.2.2.2.1 how 0) (fun g763 => (lt (km_endsPiece f Y.2.2.2.2.1 g763.1 Y.2.2.2.2.2.2.1 g763.2 Y.2.2.2.2.2.2.2.2) (fun g764 => (1, Y.2.1, Y.2.2.1, Y.2.2.2.1, g764.1, g764.2.1, g764.2.2.1, g764.2.2.2, Y.2.2.2.2.2.2.2.2)))))) → oC p N T fl (if sG tb N q = 60 ∨ sG tb N q = 62 ∨ sG tb N q = 61 then rS (sG tb N) N false (q + 1) (kf T).length 0 else .inr (eF 1 q)) R := fun how Y hw hY hR => by
      have pl := in_of (s := sG tb N) sG_e (p := q) (fun z => by rw [z] at hw; rcases hw with d | d | d <;> exact absurd d (by decide))
      rw [if_pos hw]
      rw [h4, h5, h6, h8, nJ_1 (n := q) (by omega)] at hY
      rcases m_sum (e := 1) hN hf (wf_noOp hT) (p := q + 1) (by omega) ho (by omega) (by omega) h9 h10 hY with ⟨w, c2, g1, g2, g3, g4, g5, g6, g7, g8, g9, g10⟩ | ⟨g1, g2⟩
      · obtain ⟨-, w1, w2⟩ := rS_le sG_e (by omega) g1
        have w2 := w2 rfl
        have en : (km_notes (nI c2) Y.2.2.2.2.2.2.2.1 how 0).1 = nI (c2 + 1) := nJ_1 (n := c2) (by omega)
        obtain ⟨T1, c3, b72, k1, k2, k3, k4, k5, k6, k7⟩ := m_enp' (f := f) (o := (kf T).length) (c := c2 + 1) (a72 := (km_notes (nI c2) Y.2.2.2.2.2.2.2.1 how 0).2) hf hT g9 (by omega) nl1 (by omega) (by omega)
        rw [if_neg (by rw [g2]; decide), lt_e, lt_e, g5, g6, g8, en, k1] at hR
        have e9 : R.2.2.2.2.2.2.2.2 = Y.2.2.2.2.2.2.2.2 := (congrArg (fun z : R9 => z.2.2.2.2.2.2.2.2) hR).trans rfl
        refine Or.inl ⟨w, T1, c3, g1, by omega, w1, congrArg (fun z : R9 => z.1) hR, (congrArg (fun z : R9 => z.2.1) hR).trans g3, (congrArg (fun z : R9 => z.2.2.1) hR).trans g4, (congrArg (fun z : R9 => z.2.2.2.2.1) hR).trans ?_, congrArg (fun z : R9 => z.2.2.2.2.2.1) hR, by omega, congrArg (fun z : R9 => z.2.2.2.2.2.2.1) hR, by rw [e9]; exact k6, by rw [e9]; exact g10, k2, k3, k4, k7⟩
        show nI ((kf T).length - nots (kf T)) = nI (kf T1).length
        rw [k4, nl2]
      · rw [if_pos g2] at hR
        have e1 : R.2.2.1 = Y.2.2.1 := (congrArg (fun z : R9 => z.2.2.1) hR).trans rfl
        exact Or.inr ⟨by rw [e1]; exact g1, congrArg (fun z : R9 => z.1) hR⟩
    by_cases d1 : sG tb N q = 60
    · rw [if_pos d1, lt_e] at hR
      exact go 7 _ (Or.inl d1) rfl hR
    · rw [if_neg d1] at hR
      by_cases d2 : sG tb N q = 62
      · rw [if_pos d2, lt_e] at hR
        exact go 8 _ (Or.inr (Or.inl d2)) rfl hR
      · rw [if_neg d2] at hR
        by_cases d3 : sG tb N q = 61
        · rw [if_pos d3, lt_e] at hR
          exact go 9 _ (Or.inr (Or.inr d3)) rfl hR
        · rw [if_neg d3, lt_e] at hR
          rw [if_neg (fun z => by rcases z with z | z | z; exact d1 z; exact d2 z; exact d3 z)]
          subst hR
          exact Or.inr ⟨rfl, rfl⟩
  · rw [if_pos h2] at hR
    subst hR
    rw [h1]
    exact Or.inr ⟨rfl, rfl⟩
theorem hd_c {T : List Nat} {k : Nat} (h : T.head? = some k) : ∃ T', T = k :: T' := by
  cases T with
  | nil => cases h
  | cons a T' =>
    have h : some a = some k := h
    injection h with h
    exact ⟨T', by rw [h]⟩
abbrev R5 : Type := Int32 × Int32 × Int32 × Int32 × List Int32
/-- the ) -/
theorem m_92 (hN : N ≤ 240) {f : Nat} (hf : 300 ≤ f) {fl n12 : Int32} {a73 : List Int32} : ∀ (m p c : Nat) (T : List Nat) (a72 : List Int32) (V : Sum R9 R5), p ≤ N → N + 1 - p ≤ m → wfT T → ¬ T.head? = some 10 → PS T a73 → T.length ≤ p → c + ctn T ≤ p → (kf T).length ≤ 6 → V = km_readsCondition_92 f (nI N) fl n12 tb a73 m (nI p) (nI (kf T).length) (nI c) (nI T.length) a72 → (∃ (q c1 : Nat) (R : R9), V = Sum.inl R ∧ rC (sG tb N) N true p (kf T).length (kf T) = .inl q ∧ R.1 = 1 ∧ R.2.1 = nI q ∧ q ≤ N ∧ p < q ∧ R.2.2.1 = fl ∧ R.2.2.2.2.2.1 = nI c1 ∧ c1 ≤ q ∧ R.2.2.2.2.2.2.2.2 = a73) ∨ (∃ (q c1 : Nat) (T1 : List Nat) (b72 : List Int32), V = Sum.inr (nI q, nI (kf T1).length, nI c1, nI T1.length, b72) ∧ ¬ sG tb N q = 41 ∧ p ≤ q ∧ q ≤ N ∧ wfT T1 ∧ ¬ T1.head? = some 10 ∧ PS T1 a73 ∧ T1.length ≤ q ∧ c1 + ctn T1 ≤ q ∧ (kf T1).length ≤ 6 ∧ rC (sG tb N) N true p (kf T).length (kf T) = rC (sG tb N) N true q (kf T1).length (kf T1)) := by
  intro m
  induction m with
  | zero =>
    intro p c T a72 V hp hm
    omega
  | succ m ih =>
    intro p c T a72 V hp hm hT h10 hP hl hc ho hV
    rw [e_km_readsCondition_92, lt_e, he_s hN hp] at hV
    by_cases x : sG tb N p = 41
    · have pl := in_of (s := sG tb N) sG_e (p := p) (by rw [x]; decide)
      obtain ⟨T1, b72, h1, h2, h3, h4, h5, h6, h7, h8⟩ := m_lan' (f14 := nI c) (a72 := a72) (x := 1) hf (Or.inr rfl) hT h10 hP (by omega)
      obtain ⟨T2, rfl⟩ := hd_c (h4 rfl)
      have hA := (rC_C (s := sG tb N) (N := N) hp (kf T).length (kf T)).trans (if_pos x)
      have k1 : kf T = false :: kf T2 := h5.symm
      have k2 : (kf T).length = (kf T2).length + 1 := by rw [k1]; rfl
      have k3 : ctn T = ctn T2 := h6.symm
      have hl2 : T2.length + 1 ≤ T.length := h8
      have eo : nI (kf T).length - 1 = nI (kf T2).length := by rw [k2, nI_p1 (by omega)]
      have ew : nI (13 :: T2).length - 1 = nI T2.length := nI_p1 (by omega)
      rw [if_pos x, lt_e, h1] at hV
      have hV : V = (if nI (13 :: T2).length - 1 = 0 then (Sum.inl (1, nI p + 1, fl, n12, nI (kf T).length - 1, nI c, nI (13 :: T2).length - 1, b72, a73)) else (lt (km_endsPiece f (nI (kf T).length - 1) (nI c) (nI (13 :: T2).length - 1) b72 a73) (fun g770 => (km_readsCondition_92 f (nI N) fl n12 tb a73 m (nI p + 1) g770.1 g770.2.1 g770.2.2.1 g770.2.2.2)))) := hV
      rw [eo, ew, nJ_1 (n := p) (by omega)] at hV
      by_cases z : T2 = []
      · subst z
        rw [if_pos (show nI ([] : List Nat).length = 0 from rfl)] at hV
        have kt : (kf T).tail = [] := by rw [k1]; rfl
        exact Or.inl ⟨p + 1, c, _, hV, hA.trans (if_pos kt), rfl, rfl, by omega, by omega, rfl, rfl, by omega, rfl⟩
      · have hT2 : wfT T2 := by
          rcases h2 with ⟨h2, -⟩ | ⟨h2, -⟩
          · exact absurd h2 z
          · exact h2
        have kt : ¬ (kf T).tail = [] := by rw [k1]; exact kf_ne hT2
        have hA := hA.trans (if_neg kt)
        have nz : ¬ nI T2.length = 0 := fun w => by
          have := nJ_inj (m := T2.length) (n := 0) (by omega) (by omega) w
          exact z (List.length_eq_zero_iff.mp this)
        obtain ⟨nl1, nl2⟩ := nots_le (kf T2)
        obtain ⟨T3, c3, d72, g1, g2, g3, g4, g5, g6, g7⟩ := m_enp' (f := f) (o := (kf T2).length) (c := c) (a72 := b72) hf hT2 h7.2 (by omega) nl1 (by omega) (by omega)
        rw [if_neg nz, lt_e, g1] at hV
        have k4 : (kf T3).length = (kf T2).length - nots (kf T2) := by rw [g4, nl2]
        rw [← k4] at hV
        have ek : (kf T).tail = kf T2 := by rw [k1]; rfl
        rw [ek, k2, show (kf T2).length + 1 - 1 - nots (kf T2) = (kf T3).length by omega, ← g4, ← k2] at hA
        rcases ih (p + 1) c3 T3 d72 V (by omega) (by omega) g2 g3 g6 (by omega) (by omega) (by omega) hV with ⟨q, c1, R, w1, w2, w3, w4, w5, w6, w7, w8, w9, w10⟩ | ⟨q, c1, T1, e72, w1, w2, w3, w4, w5, w6, w7, w8, w9, w10, w11⟩
        · exact Or.inl ⟨q, c1, R, w1, hA.trans w2, w3, w4, w5, by omega, w7, w8, w9, w10⟩
        · exact Or.inr ⟨q, c1, T1, e72, w1, w2, by omega, w4, w5, w6, w7, w8, w9, w10, hA.trans w11⟩
    · rw [if_neg x] at hV
      exact Or.inr ⟨p, c, T, a72, hV, x, Nat.le_refl _, hp, hT, h10, hP, hl, hc, ho, rfl⟩
/-- how a condition ends -/
noncomputable def oD (N : Nat) (p : Nat) (fl : Int32) (spec : Nat ⊕ Int32) (R : R9) : Prop := (∃ q c1 : Nat, spec = .inl q ∧ p < q ∧ q ≤ N ∧ R.1 = 1 ∧ R.2.1 = nI q ∧ R.2.2.1 = fl ∧ R.2.2.2.2.2.1 = nI c1 ∧ c1 ≤ q ∧ R.2.2.2.2.2.2.2.2.length = 260) ∨ (spec = .inr R.2.2.1 ∧ R.1 = 0)
theorem oD_le {p p' : Nat} {fl : Int32} {spec : Nat ⊕ Int32} {R : R9} (h : oD N p' fl spec R) (hp : p ≤ p') : oD N p fl spec R := by
  rcases h with ⟨q, c1, h1, h2, h3⟩ | h
  · exact Or.inl ⟨q, c1, h1, by omega, h3⟩
  · exact Or.inr h
theorem m_40 (hN : N ≤ 240) {f : Nat} (hf : 300 ≤ f) : ∀ (m p c : Nat) (T : List Nat) (fl n12 : Int32) (a72 a73 : List Int32) (R : R9), p ≤ N → N + 1 - p ≤ m → wfT T → PS T a73 → a73.length = 260 → T.length ≤ p → c + ctn T ≤ p → (kf T).length ≤ 6 → R = km_readsCondition_40 f (nI N) tb m (nI p) fl n12 (nI (kf T).length) (nI c) (nI T.length) a72 a73 → oD N p fl (rC (sG tb N) N false p (kf T).length (kf T)) R := by
  intro m
  induction m with
  | zero =>
    intro p c T fl n12 a72 a73 R hp hm
    omega
  | succ m ih =>
    intro p c T fl n12 a72 a73 R hp hm hT hP h260 hl hc ho hR
    have hB := rC_B (s := sG tb N) sG_e hp (kf T).length (kf T)
    rw [e_km_readsCondition_40, lt_e, he_s hN hp] at hR
    have opens : ∀ (k : Nat) (b : Bool), (k = 10 ∧ b = true ∨ k = 13 ∧ b = false) → (sG tb N p = 33 ∨ sG tb N p = 40) → rC (sG tb N) N false p (kf T).length (kf T) = (if (kf T).length = 6 then .inr (eF 5 p) else rC (sG tb N) N false (p + 1) ((kf T).length + 1) (b :: kf T)) → R = (if (km_opens (nI p) fl (nI (kf T).length) (nI T.length) a73 (nI k)).1 = 0 then (0, (km_opens (nI p) fl (nI (kf T).length) (nI T.length) a73 (nI k)).2.1, (km_opens (nI p) fl (nI (kf T).length) (nI T.length) a73 (nI k)).2.2.1, n12, (km_opens (nI p) fl (nI (kf T).length) (nI T.length) a73 (nI k)).2.2.2.1, nI c, (km_opens (nI p) fl (nI (kf T).length) (nI T.length) a73 (nI k)).2.2.2.2.1, a72, (km_opens (nI p) fl (nI (kf T).length) (nI T.length) a73 (nI k)).2.2.2.2.2) else (km_readsCondition_40 f (nI N) tb m (km_opens (nI p) fl (nI (kf T).length) (nI T.length) a73 (nI k)).2.1 (km_opens (nI p) fl (nI (kf T).length) (nI T.length) a73 (nI k)).2.2.1 n12 (km_opens (nI p) fl (nI (kf T).length) (nI T.length) a73 (nI k)).2.2.2.1 (nI c) (km_opens (nI p) fl (nI (kf T).length) (nI T.length) a73 (nI k)).2.2.2.2.1 a72 (km_opens (nI p) fl (nI (kf T).length) (nI T.length) a73 (nI k)).2.2.2.2.2)) → oD N p fl (rC (sG tb N) N false p (kf T).length (kf T)) R := fun k b hk hx hB hR => by
      have pl := in_of (s := sG tb N) sG_e (p := p) (fun z => by rw [z] at hx; rcases hx with d | d <;> exact absurd d (by decide))
      by_cases o6 : (kf T).length = 6
      · have e1 : km_opens (nI p) fl (nI (kf T).length) (nI T.length) a73 (nI k) = (0, nI p, eF 5 p, nI (kf T).length, nI T.length, a73) := by
          unfold km_opens
          rw [if_pos (show nI (kf T).length = 6 by rw [o6]; rfl)]
          rfl
        rw [e1, if_pos rfl] at hR
        subst hR
        exact Or.inr ⟨hB.trans (if_pos o6), rfl⟩
      · have hk16 : k < 16 := by omega
        have ek : kf (k :: T) = b :: kf T := by
          show (if k = 10 then true :: kf T else if k = 13 then false :: kf T else kf T) = _
          rcases hk with ⟨h1, h2⟩ | ⟨h1, h2⟩
          · rw [if_pos h1, h2]
          · rw [if_neg (by omega), if_pos h1, h2]
        have elk : (kf (k :: T)).length = (kf T).length + 1 := by rw [ek]; rfl
        have e1 : km_opens (nI p) fl (nI (kf T).length) (nI T.length) a73 (nI k) = (1, nI (p + 1), fl, nI (kf (k :: T)).length, nI (k :: T).length, a73.set T.length (1048576 * nI k)) := by
          unfold km_opens
          rw [if_neg (show ¬ nI (kf T).length = 6 from fun z => o6 (nJ_inj (m := (kf T).length) (n := 6) (by omega) (by omega) z)), nJ_1 (n := p) (by omega), nJ_1 (n := (kf T).length) (by omega), nJ_1 (n := T.length) (by omega), nJ_ix (n := T.length) (by omega), elk]
          rfl
        rw [e1, if_neg (show ¬ (1 : Int32) = 0 by decide)] at hR
        have hB := hB.trans (if_neg o6)
        have ec : ctn (k :: T) ≤ ctn T + 1 := by
          show ctn T + (if k ≤ 10 then 1 else 0) ≤ _
          split <;> omega
        have K := ih (p + 1) c (k :: T) fl n12 a72 _ R (by omega) (by omega) (Or.inr ⟨hT, by omega⟩) (ps_push hP (by omega) (kv_1 k hk16)) (by rw [List.length_set]; exact h260) (by show T.length + 1 ≤ p + 1; omega) (by omega) (by omega) hR
        rw [elk, ek, ← hB] at K
        exact oD_le K (by omega)
    by_cases x : sG tb N p = 33
    · rw [if_pos x, lt_e] at hR
      exact opens 10 true (Or.inl ⟨rfl, rfl⟩) (Or.inl x) (hB.trans (if_pos x)) hR
    · rw [if_neg x] at hR
      have hB := hB.trans (if_neg x)
      by_cases x4 : sG tb N p = 40
      · rw [if_pos x4, lt_e] at hR
        exact opens 13 false (Or.inr ⟨rfl, rfl⟩) (Or.inr x4) (hB.trans (if_pos x4)) hR
      · rw [if_neg x4, lt_e] at hR
        have hB := hB.trans (if_neg x4)
        have hB : rC (sG tb N) N false p (kf T).length (kf T) = (match cmS (sG tb N) N p (kf T).length with | .inr e => .inr e | .inl q2 => rC (sG tb N) N true q2 ((kf T).length - nots (kf T)) (drops (kf T))) := by
          rw [hB]
          unfold cmS
          cases e : rS (sG tb N) N false p (kf T).length 0 with
          | inr y => rfl
          | inl q =>
            show (if sG tb N q = 60 ∨ sG tb N q = 62 ∨ sG tb N q = 61 then (match rS (sG tb N) N false (q + 1) (kf T).length 0 with | .inr e => .inr e | .inl q2 => rC (sG tb N) N true q2 ((kf T).length - nots (kf T)) (drops (kf T))) else .inr (eF 1 q) : Nat ⊕ Int32) = (match (if sG tb N q = 60 ∨ sG tb N q = 62 ∨ sG tb N q = 61 then rS (sG tb N) N false (q + 1) (kf T).length 0 else .inr (eF 1 q) : Nat ⊕ Int32) with | .inr e => .inr e | .inl q2 => rC (sG tb N) N true q2 ((kf T).length - nots (kf T)) (drops (kf T)))
            by_cases d : sG tb N q = 60 ∨ sG tb N q = 62 ∨ sG tb N q = 61
            · rw [if_pos d, if_pos d]
            · rw [if_neg d, if_neg d]
        generalize hX : km_readsCompared f (nI p) (nI N) fl n12 (nI (kf T).length) (nI c) (nI T.length) tb a72 a73 = X at hR
        rcases m_cmp hN hf hT hp ho hc hl hP h260 hX.symm with ⟨q, T1, c1, h1, h2, h3, h4, h5, h6, h7, h8, h9, h10, h11, h12, h13, h14, h15, h16⟩ | ⟨h1, h2⟩
        · rw [h1] at hB
          have nl2 := (nots_le (kf T)).2
          have hB : rC (sG tb N) N false p (kf T).length (kf T) = rC (sG tb N) N true q ((kf T).length - nots (kf T)) (drops (kf T)) := hB
          rw [← h15] at nl2 hB
          rw [← nl2] at hB
          rw [if_neg (by rw [h4]; decide), h5, h6, h7, h8, h10] at hR
          generalize hV : km_readsCondition_92 f (nI N) fl X.2.2.2.1 tb X.2.2.2.2.2.2.2.2 m (nI q) (nI (kf T1).length) (nI c1) (nI T1.length) X.2.2.2.2.2.2.2.1 = V at hR
          rcases m_92 hN hf m q c1 T1 _ V h3 (by omega) h13 h14 h11 (by omega) h9 (by omega) hV.symm with ⟨w, c2, S, g1, g2, g3, g4, g5, g6, g7, g8, g9, g10⟩ | ⟨w, c2, T2, b72, g1, g2, g3, g4, g5, g6, g7, g8, g9, g10, g11⟩
          · rw [g1] at hR
            have hR : R = S := hR
            subst hR
            exact Or.inl ⟨w, c2, hB.trans g2, by omega, g5, g3, g4, g7, g8, g9, by rw [g10]; exact h12⟩
          · rw [g1] at hR
            have hB := hB.trans (g11.trans ((rC_C (s := sG tb N) (N := N) g4 (kf T2).length (kf T2)).trans (if_neg g2)))
            have hR : R = (lt (km_here (nI w) (nI N) tb) (fun g771 => (if g771 = 38 then (lt (km_lands f (nI c2) (nI T2.length) b72 X.2.2.2.2.2.2.2.2 0) (fun g772 => (lt (km_jumps (nI w) (nI c2) g772.1 g772.2 X.2.2.2.2.2.2.2.2 11) (fun g774 => (km_readsCondition_40 f (nI N) tb m g774.1 fl X.2.2.2.1 (nI (kf T2).length) g774.2.1 g774.2.2.1 g774.2.2.2.1 g774.2.2.2.2))))) else (if g771 = 124 then (lt (km_lands f (nI c2) (nI T2.length) b72 X.2.2.2.2.2.2.2.2 1) (fun g777 => (lt (km_jumps (nI w) (nI c2) g777.1 g777.2 X.2.2.2.2.2.2.2.2 12) (fun g778 => (km_readsCondition_40 f (nI N) tb m g778.1 fl X.2.2.2.1 (nI (kf T2).length) g778.2.1 g778.2.2.1 g778.2.2.2.1 g778.2.2.2.2))))) else (lt (km_wrongAt 1 (nI w)) (fun g779 => (g779.1, nI w, g779.2, X.2.2.2.1, (nI (kf T2).length), nI c2, nI T2.length, b72, X.2.2.2.2.2.2.2.2)))))) : R9) := hR
            rw [lt_e, he_s hN g4] at hR
            have go : ∀ (x y : Int32) (k : Nat), (x = 0 ∨ x = 1) → y = nI k → (k = 11 ∨ k = 12) → (sG tb N w = 38 ∨ sG tb N w = 124) → R = (lt (km_lands f (nI c2) (nI T2.length) b72 X.2.2.2.2.2.2.2.2 x) (fun g772 => (lt (km_jumps (nI w) (nI c2) g772.1 g772.2 X.2.2.2.2.2.2.2.2 y) (fun g774 => (km_readsCondition_40 f (nI N) tb m g774.1 fl X.2.2.2.1 (nI (kf T2).length) g774.2.1 g774.2.2.1 g774.2.2.2.1 g774.2.2.2.2)))) : R9) → oD N p fl (rC (sG tb N) N false p (kf T).length (kf T)) R := fun x y k hx hy hk hs hR => by
              have pl := in_of (s := sG tb N) sG_e (p := w) (fun z => by rw [z] at hs; rcases hs with d | d <;> exact absurd d (by decide))
              have hB := hB.trans (if_pos hs)
              obtain ⟨T3, d72, u1, u2, u3, -, u5, u6, u7, u8⟩ := m_lan' (f14 := nI c2) (a72 := b72) hf hx g5 g6 g7 (by omega)
              have ev : (1048576 * y + nI c2) / 1048576 = nI k := by
                have q := kv_2 c2 (by omega)
                rcases hk with hk | hk
                · rw [hy, hk]
                  exact q.1
                · rw [hy, hk]
                  exact q.2
              have ek : kf (k :: T3) = kf T3 := by
                show (if k = 10 then true :: kf T3 else if k = 13 then false :: kf T3 else kf T3) = kf T3
                rw [if_neg (by omega), if_neg (by omega)]
              have ec : ctn (k :: T3) = ctn T3 := by
                show ctn T3 + (if k ≤ 10 then 1 else 0) = ctn T3
                rw [if_neg (by omega)]
                rfl
              rw [lt_e, u1, lt_e] at hR
              have ej : km_jumps (nI w) (nI c2) (nI T3.length) d72 X.2.2.2.2.2.2.2.2 y = (nI (w + 1), nI (c2 + 1), nI (k :: T3).length, (km_notes (nI c2) d72 y 0).2, X.2.2.2.2.2.2.2.2.set T3.length (1048576 * y + nI c2)) := by
                unfold km_jumps
                rw [nJ_1 (n := w) (by omega), nJ_1 (n := T3.length) (by omega), nJ_ix (n := T3.length) (by omega)]
                have en : (km_notes (nI c2) d72 y 0).1 = nI (c2 + 1) := nJ_1 (n := c2) (by omega)
                rw [en]
                rfl
              have hR : R = km_readsCondition_40 f (nI N) tb m (km_jumps (nI w) (nI c2) (nI T3.length) d72 X.2.2.2.2.2.2.2.2 y).1 fl X.2.2.2.1 (nI (kf T2).length) (km_jumps (nI w) (nI c2) (nI T3.length) d72 X.2.2.2.2.2.2.2.2 y).2.1 (km_jumps (nI w) (nI c2) (nI T3.length) d72 X.2.2.2.2.2.2.2.2 y).2.2.1 (km_jumps (nI w) (nI c2) (nI T3.length) d72 X.2.2.2.2.2.2.2.2 y).2.2.2.1 (km_jumps (nI w) (nI c2) (nI T3.length) d72 X.2.2.2.2.2.2.2.2 y).2.2.2.2 := hR
              rw [ej] at hR
              have e2 : kf T2 = kf (k :: T3) := by rw [ek, u5]
              rw [e2] at hR hB
              have K := ih (w + 1) (c2 + 1) (k :: T3) fl X.2.2.2.1 _ _ R (by omega) (by omega) (Or.inr ⟨u2, Or.inr (Or.inr ⟨hk, u3⟩)⟩) (ps_push u7 (by omega) ev) (by rw [List.length_set]; exact h12) (by show T3.length + 1 ≤ w + 1; omega) (by omega) (by rw [← e2]; exact g10) hR
              rw [← hB] at K
              exact oD_le K (by omega)
            by_cases y1 : sG tb N w = 38
            · rw [if_pos y1] at hR
              exact go 0 11 11 (Or.inl rfl) rfl (Or.inl rfl) (Or.inl y1) hR
            · rw [if_neg y1] at hR
              by_cases y2 : sG tb N w = 124
              · rw [if_pos y2] at hR
                exact go 1 12 12 (Or.inr rfl) rfl (Or.inr rfl) (Or.inr y2) hR
              · rw [if_neg y2, lt_e] at hR
                subst hR
                exact Or.inr ⟨hB.trans (if_neg (fun z => by rcases z with z | z; exact y1 z; exact y2 z)), rfl⟩
        · rw [if_pos h2] at hR
          rw [h1] at hB
          have e1 : R.2.2.1 = X.2.2.1 := (congrArg (fun z : R9 => z.2.2.1) hR).trans rfl
          exact Or.inr ⟨by rw [e1]; exact hB, congrArg (fun z : R9 => z.1) hR⟩
theorem m_con (hN : N ≤ 240) {f : Nat} (hf : 300 ≤ f) {p c : Nat} {fl n12 x13 x15 : Int32} {a72 a73 : List Int32} {R : R9} (hp : p ≤ N) (hc : c ≤ p) (h260 : a73.length = 260) (hR : R = km_readsCondition f (nI p) (nI N) fl n12 x13 (nI c) x15 tb a72 a73) : oD N p fl (cS (sG tb N) N p) R := by
  unfold km_readsCondition at hR
  unfold cS
  rw [lt_e, he_s hN hp] at hR
  by_cases x : sG tb N p = 40
  · have pl := in_of (s := sG tb N) sG_e (p := p) (by rw [x]; decide)
    rw [if_pos x] at hR ⊢
    have e1 : km_opens (nI p) fl 0 0 a73 13 = (1, nI (p + 1), fl, nI 1, nI 1, a73.set 0 (1048576 * 13)) := by
      unfold km_opens
      rw [if_neg (by decide), nJ_1 (n := p) (by omega)]
      rfl
    rw [lt_e, e1, if_neg (show ¬ (1 : Int32) = 0 by decide)] at hR
    have K := m_40 (tb := tb) hN hf f (p + 1) c [13] fl n12 a72 (a73.set 0 (1048576 * 13)) R (by omega) (by omega) (Or.inl ⟨rfl, rfl⟩) (ps_push (T := []) trivial (by show 0 < a73.length; omega) (kv_1 13 (by omega))) (by rw [List.length_set]; exact h260) (by show 1 ≤ p + 1; omega) (by show c + 0 ≤ p + 1; omega) (by show 1 ≤ 6; omega) hR
    exact oD_le K (by omega)
  · rw [if_neg x, lt_e] at hR
    rw [if_neg x]
    subst hR
    exact Or.inr ⟨rfl, rfl⟩
end MC
