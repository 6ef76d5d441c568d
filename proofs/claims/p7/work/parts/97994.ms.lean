/-! the law's text: sums, the reference reads as the machine does -/
/-- what waits, the last one first: kinds -/
noncomputable def PS : List Nat → List Int32 → Prop
  | [], _ => True
  | k :: T, a => a.getD T.length 0 / 1048576 = nI k ∧ PS T a
/-- how many of them are noted when they go -/
noncomputable def ctn : List Nat → Nat
  | [] => 0
  | k :: T => ctn T + (if k ≤ 10 then 1 else 0)
/-- how many [ -/
noncomputable def nbk : List Nat → Nat
  | [] => 0
  | k :: T => nbk T + (if k = 14 then 1 else 0)
noncomputable def isOp (k : Nat) : Prop := 2 ≤ k ∧ k ≤ 6
theorem gd_ne {a : List Int32} {i j : Nat} {v : Int32} (h : ¬ j = i) : (a.set i v).getD j 0 = a.getD j 0 := by
  rw [List.getD_eq_getElem?_getD, List.getD_eq_getElem?_getD, List.getElem?_set_ne (fun z => h z.symm)]
theorem ps_set {a : List Int32} {i : Nat} {v : Int32} : ∀ {T : List Nat}, PS T a → T.length ≤ i → PS T (a.set i v)
  | [], _, _ => trivial
  | k :: T, h, hi => by
    have hi : T.length + 1 ≤ i := hi
    exact ⟨by rw [gd_ne (by omega)]; exact h.1, ps_set h.2 (by omega)⟩
theorem ps_push {a : List Int32} {k : Nat} {v : Int32} {T : List Nat} (h : PS T a) (hl : T.length < a.length) (hv : v / 1048576 = nI k) : PS (k :: T) (a.set T.length v) := ⟨by rw [gd_set hl, if_pos rfl]; exact hv, ps_set h (Nat.le_refl _)⟩
theorem kv_1 : ∀ k, k < 16 → (1048576 * nI k) / 1048576 = nI k := by decide +kernel
theorem ps_drop {a : List Int32} {T : List Nat} : ∀ {U : List Nat}, PS (U ++ T) a → PS T a
  | [], h => h
  | _ :: U, h => ps_drop (U := U) h.2
theorem ctn_app (T : List Nat) : ∀ U : List Nat, ctn (U ++ T) = ctn U + ctn T
  | [] => by
    show ctn T = 0 + ctn T
    omega
  | k :: U => by
    show ctn (U ++ T) + _ = ctn U + _ + ctn T
    rw [ctn_app T U]
    omega
theorem nb_app (T : List Nat) : ∀ U : List Nat, nbk (U ++ T) = nbk U + nbk T
  | [] => by
    show nbk T = 0 + nbk T
    omega
  | k :: U => by
    show nbk (U ++ T) + _ = nbk U + _ + nbk T
    rw [nb_app T U]
    omega
theorem ctn_op : ∀ U : List Nat, (∀ k ∈ U, isOp k) → ctn U = U.length ∧ nbk U = 0
  | [], _ => ⟨rfl, rfl⟩
  | k :: U, h => by
    have h1 := h k (List.mem_cons_self ..)
    obtain ⟨h3, h4⟩ := ctn_op U (fun x hx => h x (List.mem_cons_of_mem _ hx))
    unfold isOp at h1
    refine ⟨?_, ?_⟩
    · show ctn U + (if k ≤ 10 then 1 else 0) = U.length + 1
      rw [if_pos (by omega), h3]
    · show nbk U + (if k = 14 then 1 else 0) = 0
      rw [if_neg (by omega), h4]
theorem nb_rep (T : List Nat) : ∀ j, nbk (List.replicate j 14 ++ T) = j + nbk T ∧ ctn (List.replicate j 14 ++ T) = ctn T ∧ (List.replicate j 14 ++ T).length = j + T.length
  | 0 => ⟨by show nbk T = _; omega, rfl, by show T.length = _; omega⟩
  | j + 1 => by
    obtain ⟨h1, h2, h3⟩ := nb_rep T j
    refine ⟨?_, ?_, ?_⟩
    · show nbk (List.replicate j 14 ++ T) + 1 = _
      omega
    · show ctn (List.replicate j 14 ++ T) + 0 = _
      omega
    · show (List.replicate j 14 ++ T).length + 1 = _
      omega
theorem rep_c (T : List Nat) : ∀ j, List.replicate j 14 ++ (14 :: T) = List.replicate (j + 1) 14 ++ T
  | 0 => rfl
  | j + 1 => congrArg (List.cons 14) (rep_c T j)
theorem wt_0 {a : List Int32} : km_waitTop (nI 0) a = -1 := by
  unfold km_waitTop
  exact if_pos rfl
theorem nI_p1 {n : Nat} (h : n < 2147483647) : nI (n + 1) - 1 = nI n := by
  rw [← nJ_1 h, Int32.add_sub_cancel]
theorem wt_c {a : List Int32} {k : Nat} {T : List Nat} (h : PS (k :: T) a) (hl : T.length < 1000) : km_waitTop (nI (T.length + 1)) a = nI k := by
  unfold km_waitTop
  rw [if_neg (fun z => by have := nJ_inj (m := T.length + 1) (n := 0) (by omega) (by omega) z; omega), nI_p1 (by omega), nJ_ix (n := T.length) (by omega)]
  exact h.1
/-- what isn't an operation on top, or nothing -/
noncomputable def noOp (T : List Nat) : Prop := T = [] ∨ ∃ k T', T = k :: T' ∧ k < 16 ∧ ¬ isOp k
theorem cl_stop {a : List Int32} {T : List Nat} (hT : noOp T) {x : Int32} {m c : Nat} {a72 : List Int32} (hl : T.length < 1000) (hp : PS T a) : km_closesSums_0 a x (m + 1) (nI c) (nI T.length) a72 = (nI c, nI T.length, a72) := by
  rw [e_km_closesSums_0]
  have hw : (km_waitTop (nI T.length) a).toInt < 4 ∧ ¬ km_waitTop (nI T.length) a = 2 ∧ ¬ km_waitTop (nI T.length) a = 3 ∨ 6 < (km_waitTop (nI T.length) a).toInt ∧ ¬ km_waitTop (nI T.length) a = 2 ∧ ¬ km_waitTop (nI T.length) a = 3 := by
    rcases hT with rfl | ⟨k, T', rfl, hk, hk2⟩
    · have e : km_waitTop (nI ([] : List Nat).length) a = -1 := wt_0
      rw [e]
      exact Or.inl (by decide)
    · have hl : T'.length + 1 < 1000 := hl
      have e : km_waitTop (nI (k :: T').length) a = nI k := wt_c hp (by omega)
      have ek := nI_toInt (n := k) (by omega)
      unfold isOp at hk2
      rw [e]
      have n2 : ¬ nI k = 2 := fun z => by
        have := nJ_inj (m := k) (n := 2) (by omega) (by omega) z
        omega
      have n3 : ¬ nI k = 3 := fun z => by
        have := nJ_inj (m := k) (n := 3) (by omega) (by omega) z
        omega
      by_cases c4 : k < 2
      · exact Or.inl ⟨by omega, n2, n3⟩
      · exact Or.inr ⟨by omega, n2, n3⟩
  rcases hw with ⟨h1, h2, h3⟩ | ⟨h1, h2, h3⟩
  · rw [if_pos h1, if_neg h2, if_neg h3]
    split <;> rfl
  · rw [if_neg (by omega), if_pos h1, if_neg h2, if_neg h3]
    split <;> rfl
/-- all operations on top go -/
theorem cl_1 {a : List Int32} {T : List Nat} (hT : noOp T) : ∀ (U : List Nat) (m c : Nat) (a72 : List Int32), (∀ k ∈ U, isOp k) → U.length < m → c + U.length < 100000 → (U ++ T).length < 1000 → PS (U ++ T) a → ∃ b72, km_closesSums_0 a 1 m (nI c) (nI (U ++ T).length) a72 = (nI (c + U.length), nI T.length, b72)
  | U, 0, c, a72, h, hm, hc, hl, hp => by omega
  | [], m + 1, c, a72, h, hm, hc, hl, hp => ⟨a72, cl_stop hT hl hp⟩
  | k :: U, m + 1, c, a72, h, hm, hc, hl, hp => by
    have hk : isOp k := h k (List.mem_cons_self ..)
    have hl' : (U ++ T).length + 1 < 1000 := hl
    have hm' : U.length + 1 < m + 1 := hm
    have hc' : c + (U.length + 1) < 100000 := hc
    unfold isOp at hk
    have e : km_waitTop (nI ((U ++ T).length + 1)) a = nI k := wt_c hp (by omega)
    have ek := nI_toInt (n := k) (by omega)
    have rek : ∀ b72, ∃ d72, km_closesSums_0 a 1 m (nI c + 1) (nI ((U ++ T).length + 1) - 1) b72 = (nI (c + (k :: U).length), nI T.length, d72) := fun b72 => by
      rw [nJ_1 (n := c) (by omega), nI_p1 (by omega)]
      obtain ⟨d72, hd⟩ := cl_1 hT U m (c + 1) b72 (fun x hx => h x (List.mem_cons_of_mem _ hx)) (by omega) (by omega) (by omega) hp.2
      refine ⟨d72, ?_⟩
      rw [hd]
      show (nI (c + 1 + U.length), nI T.length, d72) = (nI (c + (U.length + 1)), nI T.length, d72)
      rw [show c + 1 + U.length = c + (U.length + 1) by omega]
    show ∃ b72, km_closesSums_0 a 1 (m + 1) (nI c) (nI ((U ++ T).length + 1)) a72 = _
    rw [e_km_closesSums_0, e]
    by_cases c4 : k < 4
    · rw [if_pos (by omega), if_neg (show ¬ (1 : Int32) = 0 by decide)]
      by_cases c2 : k = 2
      · rw [if_pos (show nI k = 2 by rw [c2]; rfl)]
        exact rek _
      · rw [if_neg (show ¬ nI k = 2 from fun z => c2 (nJ_inj (m := k) (n := 2) (by omega) (by omega) z)), if_pos (show nI k = 3 by rw [show k = 3 by omega]; rfl)]
        exact rek _
    · rw [if_neg (by omega), if_neg (by omega)]
      exact rek _
/-- some operations on top go -/
theorem cl_0 {a : List Int32} {T : List Nat} (hT : noOp T) : ∀ (U : List Nat) (m c : Nat) (a72 : List Int32), (∀ k ∈ U, isOp k) → U.length < m → c + U.length < 100000 → (U ++ T).length < 1000 → PS (U ++ T) a → ∃ V W b72, U = V ++ W ∧ km_closesSums_0 a 0 m (nI c) (nI (U ++ T).length) a72 = (nI (c + V.length), nI (W ++ T).length, b72)
  | U, 0, c, a72, h, hm, hc, hl, hp => by omega
  | [], m + 1, c, a72, h, hm, hc, hl, hp => ⟨[], [], a72, rfl, cl_stop hT hl hp⟩
  | k :: U, m + 1, c, a72, h, hm, hc, hl, hp => by
    have hk : isOp k := h k (List.mem_cons_self ..)
    have hl' : (U ++ T).length + 1 < 1000 := hl
    have hm' : U.length + 1 < m + 1 := hm
    have hc' : c + (U.length + 1) < 100000 := hc
    unfold isOp at hk
    have e : km_waitTop (nI ((U ++ T).length + 1)) a = nI k := wt_c hp (by omega)
    have ek := nI_toInt (n := k) (by omega)
    by_cases c4 : k < 4
    · refine ⟨[], k :: U, a72, rfl, ?_⟩
      show km_closesSums_0 a 0 (m + 1) (nI c) (nI ((U ++ T).length + 1)) a72 = (nI c, nI ((U ++ T).length + 1), a72)
      rw [e_km_closesSums_0, e, if_pos (by omega), if_pos rfl]
    · have rek : ∀ b72, ∃ V W d72, k :: U = V ++ W ∧ km_closesSums_0 a 0 m (nI c + 1) (nI ((U ++ T).length + 1) - 1) b72 = (nI (c + V.length), nI (W ++ T).length, d72) := fun b72 => by
        rw [nJ_1 (n := c) (by omega), nI_p1 (by omega)]
        obtain ⟨V, W, d72, hu, hd⟩ := cl_0 hT U m (c + 1) b72 (fun x hx => h x (List.mem_cons_of_mem _ hx)) (by omega) (by omega) (by omega) hp.2
        refine ⟨k :: V, W, d72, by rw [hu]; rfl, ?_⟩
        rw [hd]
        show (nI (c + 1 + V.length), nI (W ++ T).length, d72) = (nI (c + (V.length + 1)), nI (W ++ T).length, d72)
        rw [show c + 1 + V.length = c + (V.length + 1) by omega]
      show ∃ V W b72, k :: U = V ++ W ∧ km_closesSums_0 a 0 (m + 1) (nI c) (nI ((U ++ T).length + 1)) a72 = (nI (c + V.length), nI (W ++ T).length, b72)
      rw [e_km_closesSums_0, e, if_neg (by omega), if_neg (by omega)]
      exact rek _
theorem sp_op : ∀ U : List Nat, (∀ k ∈ U, isOp k ∨ k = 14) → ∃ V W, U = V ++ W ∧ (∀ k ∈ V, isOp k) ∧ (W = [] ∨ ∃ W', W = 14 :: W')
  | [], _ => ⟨[], [], rfl, (fun k h => by cases h), Or.inl rfl⟩
  | k :: U, h => by
    rcases h k (List.mem_cons_self ..) with hk | hk
    · obtain ⟨V, W, h1, h2, h3⟩ := sp_op U (fun x hx => h x (List.mem_cons_of_mem _ hx))
      refine ⟨k :: V, W, by rw [h1]; rfl, fun x hx => ?_, h3⟩
      rcases List.mem_cons.mp hx with e | e
      · rw [e]; exact hk
      · exact h2 x e
    · exact ⟨[], k :: U, rfl, (fun x hx => by cases hx), Or.inr ⟨U, by rw [hk]⟩⟩
/-- is a [ open from the base on -/
theorem hos_m {a : List Int32} : ∀ (m i : Nat), i + m < 2000 → (km_hasOpenSum_2 a m (nI i) = 0 ∧ ∀ j, i ≤ j → j < i + m → ¬ a.getD j 0 / 1048576 = 14) ∨ (km_hasOpenSum_2 a m (nI i) = 1 ∧ ∃ j, i ≤ j ∧ j < i + m ∧ a.getD j 0 / 1048576 = 14)
  | 0, i, _ => Or.inl ⟨by rw [e0_km_hasOpenSum_2], fun j h1 h2 => by omega⟩
  | m + 1, i, hi => by
    rw [e_km_hasOpenSum_2, nJ_ix (n := i) (by omega), nJ_1 (n := i) (by omega)]
    by_cases c : a.getD i 0 / 1048576 = 14
    · rw [if_pos c]
      exact Or.inr ⟨rfl, i, Nat.le_refl _, by omega, c⟩
    · rw [if_neg c]
      rcases hos_m m (i + 1) (by omega) with ⟨h1, h2⟩ | ⟨h1, j, h2, h3, h4⟩
      · refine Or.inl ⟨h1, fun j g1 g2 => ?_⟩
        by_cases e : j = i
        · rw [e]; exact c
        · exact h2 j (by omega) (by omega)
      · exact Or.inr ⟨h1, j, by omega, by omega, h4⟩
theorem ps_nb {a : List Int32} {T : List Nat} : ∀ U : List Nat, (∀ k ∈ U, isOp k ∨ k = 14) → PS (U ++ T) a → ((∃ j, T.length ≤ j ∧ j < (U ++ T).length ∧ a.getD j 0 / 1048576 = 14) ↔ 0 < nbk U)
  | [], _, _ => ⟨fun ⟨j, h1, h2, _⟩ => by
      have h2 : j < T.length := h2
      omega, fun z => absurd z (by decide)⟩
  | k :: U, h, hp => by
    have ih := ps_nb (T := T) U (fun x hx => h x (List.mem_cons_of_mem _ hx)) hp.2
    have hk := h k (List.mem_cons_self ..)
    have e1 : a.getD (U ++ T).length 0 / 1048576 = nI k := hp.1
    have en : nbk (k :: U) = nbk U + (if k = 14 then 1 else 0) := rfl
    have el : (k :: U ++ T).length = (U ++ T).length + 1 := rfl
    have le : T.length ≤ (U ++ T).length := by
      rw [List.length_append]
      omega
    rw [en, el]
    by_cases c : k = 14
    · rw [if_pos c]
      exact ⟨fun _ => by omega, fun _ => ⟨(U ++ T).length, le, by omega, by rw [e1, c]; rfl⟩⟩
    · rw [if_neg c]
      refine ⟨fun ⟨j, h1, h2, h3⟩ => ?_, fun z => ?_⟩
      · by_cases e : j = (U ++ T).length
        · rw [e, e1] at h3
          unfold isOp at hk
          have := nJ_inj (m := k) (n := 14) (by omega) (by omega) h3
          omega
        · have := ih.mp ⟨j, h1, by omega, h3⟩
          omega
      · obtain ⟨j, h1, h2, h3⟩ := ih.mpr (by omega)
        exact ⟨j, h1, by omega, h3⟩
theorem hos_e {a : List Int32} {T U : List Nat} (h : ∀ k ∈ U, isOp k ∨ k = 14) (hp : PS (U ++ T) a) (hl : (U ++ T).length < 1000) : (km_hasOpenSum (nI (U ++ T).length) a (nI T.length) = 0 ∧ nbk U = 0) ∨ (km_hasOpenSum (nI (U ++ T).length) a (nI T.length) = 1 ∧ 0 < nbk U) := by
  have le : T.length ≤ (U ++ T).length := by
    rw [List.length_append]
    omega
  have q := ps_nb U h hp
  unfold km_hasOpenSum
  have ef : ((nI (U ++ T).length).toInt - (nI T.length).toInt).toNat = (U ++ T).length - T.length := by
    rw [nI_toInt (n := (U ++ T).length) (by omega), nI_toInt (n := T.length) (by omega)]
    omega
  rw [ef]
  rcases hos_m (a := a) ((U ++ T).length - T.length) T.length (by omega) with ⟨h1, h2⟩ | ⟨h1, j, h2, h3, h4⟩
  · refine Or.inl ⟨h1, ?_⟩
    by_cases z : nbk U = 0
    · exact z
    · obtain ⟨j, g1, g2, g3⟩ := q.mpr (by omega)
      exact absurd g3 (h2 j g1 (by omega))
  · exact Or.inr ⟨h1, q.mp ⟨j, h2, by omega, h4⟩⟩
section MS
variable {N : Nat} {tb : List Int32}
theorem sG_e (p : Nat) (h : N ≤ p) : sG tb N p = -1 := if_neg (by omega)
theorem he_s (hN : N ≤ 240) {p : Nat} (hp : p ≤ N) : km_here (nI p) (nI N) tb = sG tb N p := by
  have e1 := nI_toInt (n := p) (by omega)
  have e2 := nI_toInt (n := N) (by omega)
  unfold km_here sG
  by_cases c : p < N
  · rw [if_pos (by omega), if_pos c, nJ_ix (n := p) (by omega)]
  · rw [if_neg (by omega), if_neg c]
theorem di_s (hN : N ≤ 240) {p : Nat} (hp : p ≤ N) : km_isDigit (nI p) (nI N) tb = 0 ↔ ¬ dG (sG tb N p) := by
  unfold km_isDigit
  rw [he_s hN hp]
  by_cases c : (sG tb N p).toInt < 48
  · rw [if_pos c]
    exact ⟨fun _ z => by have := z.1; omega, fun _ => rfl⟩
  · rw [if_neg c]
    by_cases d : 57 < (sG tb N p).toInt
    · rw [if_pos d]
      exact ⟨fun _ z => by have := z.2; omega, fun _ => rfl⟩
    · rw [if_neg d]
      exact ⟨fun z => absurd z (by decide), fun z => absurd ⟨by omega, by omega⟩ z⟩
theorem m_num (hN : N ≤ 240) {fl : Int32} {p0 : Nat} : ∀ (m d p f : Nat) (v : Int32), p ≤ N → d + m = 6 → m ≤ f → p = p0 + d → p0 ≤ N → (∃ q w, pN (sG tb N) m d p = .inl q ∧ d < 6 ∧ km_readsNumber_10 (nI N) fl tb (nI p0) f (nI p) v = (1, nI q, fl, w)) ∨ (d < 6 ∧ pN (sG tb N) m d p = .inr (km_readsNumber_10 (nI N) fl tb (nI p0) f (nI p) v).2.2.1 ∧ (km_readsNumber_10 (nI N) fl tb (nI p0) f (nI p) v).1 = 0) ∨ d = 6 := by
  intro m
  induction m with
  | zero => intro d p f v hp hd; exact fun _ _ _ => Or.inr (Or.inr (by omega))
  | succ m ih =>
    intro d p f v hp hd hf hpd hp0
    obtain ⟨f, rfl⟩ : ∃ f', f = f' + 1 := ⟨f - 1, by omega⟩
    have ep : pN (sG tb N) (m + 1) d p = if dG (sG tb N p) then (if d = 5 then .inr (eF 2 p) else pN (sG tb N) m (d + 1) (p + 1)) else .inl p := rfl
    rw [ep, e_km_readsNumber_10]
    by_cases c : dG (sG tb N p)
    · have pl := in_of sG_e (dG_n c)
      rw [if_pos c, if_neg (fun z => (di_s hN hp).mp z c)]
      have e5 : nI p = nI p0 + 5 ↔ d = 5 := by
        have e : nI p0 + 5 = nI (p0 + 5) := nI_plus p0 5
        rw [e]
        exact ⟨fun z => by
          have := nJ_inj (m := p) (n := p0 + 5) (by omega) (by omega) z
          omega, fun z => by rw [hpd, z]⟩
      by_cases d5 : d = 5
      · rw [if_pos d5, if_pos (e5.mpr d5)]
        exact Or.inr (Or.inl ⟨by omega, rfl, rfl⟩)
      · rw [if_neg d5, if_neg (fun z => d5 (e5.mp z)), nJ_1 (n := p) (by omega)]
        rcases ih (d + 1) (p + 1) f (10 * v + km_here (nI p) (nI N) tb - 48) (by omega) (by omega) (by omega) (by omega) hp0 with ⟨q, w, h1, h2, h3⟩ | ⟨h1, h2, h3⟩ | h1
        · exact Or.inl ⟨q, w, h1, by omega, h3⟩
        · exact Or.inr (Or.inl ⟨by omega, h2, h3⟩)
        · omega
    · rw [if_neg c, if_pos ((di_s hN hp).mpr c)]
      exact Or.inl ⟨p, v, rfl, by omega, rfl⟩
abbrev R9 : Type := Int32 × Int32 × Int32 × Int32 × Int32 × Int32 × Int32 × List Int32 × List Int32
/-- a factor -/
theorem m_fac (hN : N ≤ 240) {f : Nat} (hf : 300 ≤ f) {n12 : Int32} {a72 : List Int32} {c : Nat} (hc : c < 10000) : ∀ (m p o : Nat) (T : List Nat) (fl : Int32) (a73 : List Int32) (R : R9), p ≤ N → N + 1 - p ≤ m → T.length ≤ p → PS T a73 → a73.length = 260 → o ≤ 6 → R = km_readsFactor_0 f (nI N) n12 (nI c) tb a72 m (nI p) fl (nI o) (nI T.length) a73 → (∃ q j, p + j < q ∧ q ≤ N ∧ o + j ≤ 6 ∧ R.1 = 1 ∧ R.2.1 = nI q ∧ R.2.2.1 = fl ∧ R.2.2.2.2.1 = nI (o + j) ∧ R.2.2.2.2.2.1 = nI (c + 1) ∧ R.2.2.2.2.2.2.1 = nI (List.replicate j 14 ++ T).length ∧ PS (List.replicate j 14 ++ T) R.2.2.2.2.2.2.2.2 ∧ R.2.2.2.2.2.2.2.2.length = 260 ∧ ∀ b, rS (sG tb N) N false p o b = rS (sG tb N) N true q (o + j) (b + j)) ∨ (R.1 = 0 ∧ ∀ b, rS (sG tb N) N false p o b = .inr R.2.2.1) := by
  intro m
  induction m with
  | zero =>
    intro p o T fl a73 R hp hm
    omega
  | succ m ih =>
    intro p o T fl a73 R hp hm hT hP hl ho hR
    have hF := fun b => rS_F (s := sG tb N) sG_e hp o b
    rw [e_km_readsFactor_0, he_s hN hp] at hR
    by_cases x : sG tb N p = 91
    · have pl := in_of (s := sG tb N) sG_e (p := p) (by rw [x]; decide)
      have hF := fun b => (hF b).trans (if_pos x)
      rw [if_pos x] at hR
      by_cases o6 : o = 6
      · have ho : km_opens (nI p) fl (nI o) (nI T.length) a73 14 = (0, nI p, eF 5 p, nI o, nI T.length, a73) := by
          unfold km_opens
          rw [if_pos (show nI o = 6 by rw [o6]; rfl)]
          rfl
        rw [ho, if_pos rfl] at hR
        subst hR
        exact Or.inr ⟨rfl, fun b => (hF b).trans (if_pos o6)⟩
      · have ho : km_opens (nI p) fl (nI o) (nI T.length) a73 14 = (1, nI (p + 1), fl, nI (o + 1), nI (14 :: T).length, a73.set T.length (1048576 * 14)) := by
          unfold km_opens
          rw [if_neg (show ¬ nI o = 6 from fun z => o6 (nJ_inj (m := o) (n := 6) (by omega) (by omega) z)), nJ_1 (n := p) (by omega), nJ_1 (n := o) (by omega), nJ_1 (n := T.length) (by omega), nJ_ix (n := T.length) (by omega)]
          rfl
        rw [ho, if_neg (show ¬ (1 : Int32) = 0 by decide)] at hR
        have hP' : PS (14 :: T) (a73.set T.length (1048576 * 14)) := ps_push hP (by omega) (kv_1 14 (by omega))
        have hF := fun b => (hF b).trans (if_neg o6)
        rcases ih (p + 1) (o + 1) (14 :: T) fl (a73.set T.length (1048576 * 14)) R (by omega) (by omega) (by show T.length + 1 ≤ p + 1; omega) hP' (by rw [List.length_set]; exact hl) (by omega) hR with ⟨q, j, h1, h2, h3, h4, h5, h6, h7, h8, h9, h10, h11, h12⟩ | ⟨h1, h2⟩
        · rw [rep_c T j] at h9 h10
          refine Or.inl ⟨q, j + 1, by omega, h2, by omega, h4, h5, h6, by rw [h7]; exact congrArg nI (by omega), h8, h9, h10, h11, fun b => (hF b).trans ((h12 (b + 1)).trans ?_)⟩
          rw [show o + 1 + j = o + (j + 1) by omega, show b + 1 + j = b + (j + 1) by omega]
        · exact Or.inr ⟨h1, fun b => (hF b).trans (h2 (b + 1))⟩
    · have hF := fun b => (hF b).trans (if_neg x)
      rw [if_neg x] at hR
      by_cases d : dG (sG tb N p)
      · have hF := fun b => (hF b).trans (if_pos d)
        rw [if_neg (fun z => (di_s hN hp).mp z d)] at hR
        unfold km_readsNumber at hR
        rcases m_num (tb := tb) (fl := fl) (p0 := p) hN 6 0 p f 0 hp rfl (by omega) rfl hp with ⟨q, w, h1, -, h3⟩ | ⟨-, h2, h3⟩ | h1
        · obtain ⟨q1, q2, q3⟩ := pN_le sG_e 6 0 p hp h1
          have q3 := q3 (by omega) d
          rw [h3, if_neg (show ¬ (1 : Int32) = 0 by decide)] at hR
          have k1 : (km_notes (nI c) a72 0 w).1 = nI (c + 1) := nJ_1 (n := c) (by omega)
          refine Or.inl ⟨q, 0, by omega, q2, by omega, congrArg (fun z : R9 => z.1) hR, congrArg (fun z : R9 => z.2.1) hR, congrArg (fun z : R9 => z.2.2.1) hR, congrArg (fun z : R9 => z.2.2.2.2.1) hR, (congrArg (fun z : R9 => z.2.2.2.2.2.1) hR).trans k1, congrArg (fun z : R9 => z.2.2.2.2.2.2.1) hR, ?_, ?_, fun b => ?_⟩
          · have e : R.2.2.2.2.2.2.2.2 = a73 := congrArg (fun z : R9 => z.2.2.2.2.2.2.2.2) hR
            rw [e]
            exact hP
          · have e : R.2.2.2.2.2.2.2.2 = a73 := congrArg (fun z : R9 => z.2.2.2.2.2.2.2.2) hR
            rw [e]
            exact hl
          · have g := hF b
            rw [h1] at g
            exact g
        · rw [if_pos h3] at hR
          have e1 : R.2.2.1 = (km_readsNumber_10 (nI N) fl tb (nI p) f (nI p) 0).2.2.1 := congrArg (fun z : R9 => z.2.2.1) hR
          refine Or.inr ⟨congrArg (fun z : R9 => z.1) hR, fun b => ?_⟩
          have g := hF b
          rw [h2, ← e1] at g
          exact g
        · omega
      · have hF := fun b => (hF b).trans (if_neg d)
        rw [if_pos ((di_s hN hp).mpr d)] at hR
        by_cases k : km_factOf (sG tb N p) = -1
        · rw [if_pos k] at hR
          subst hR
          exact Or.inr ⟨rfl, fun b => (hF b).trans (if_pos k)⟩
        · have pl := in_of (s := sG tb N) sG_e (p := p) (fun z => k (by rw [z]; exact em_fact))
          rw [if_neg k, nJ_1 (n := p) (by omega)] at hR
          have k1 : (km_notes (nI c) a72 1 (km_factOf (sG tb N p))).1 = nI (c + 1) := nJ_1 (n := c) (by omega)
          have e : R.2.2.2.2.2.2.2.2 = a73 := congrArg (fun z : R9 => z.2.2.2.2.2.2.2.2) hR
          exact Or.inl ⟨p + 1, 0, by omega, by omega, by omega, congrArg (fun z : R9 => z.1) hR, congrArg (fun z : R9 => z.2.1) hR, congrArg (fun z : R9 => z.2.2.1) hR, congrArg (fun z : R9 => z.2.2.2.2.1) hR, (congrArg (fun z : R9 => z.2.2.2.2.2.1) hR).trans k1, congrArg (fun z : R9 => z.2.2.2.2.2.2.1) hR, by rw [e]; exact hP, by rw [e]; exact hl, fun b => (hF b).trans (if_neg k)⟩
/-- how a sum ends -/
noncomputable def oM (tb : List Int32) (N : Nat) (f : Bool) (p o b o' : Nat) (fl : Int32) (e : Nat) (T : List Nat) (R : R9) : Prop := (∃ q c, rS (sG tb N) N f p o b = .inl q ∧ R.1 = 1 ∧ R.2.1 = nI q ∧ R.2.2.1 = fl ∧ R.2.2.2.2.1 = nI o' ∧ R.2.2.2.2.2.1 = nI c ∧ c + ctn T + e ≤ q ∧ R.2.2.2.2.2.2.1 = nI T.length ∧ PS T R.2.2.2.2.2.2.2.2 ∧ R.2.2.2.2.2.2.2.2.length = 260) ∨ (rS (sG tb N) N f p o b = .inr R.2.2.1 ∧ R.1 = 0)
theorem m_sum14 (hN : N ≤ 240) {f e : Nat} (hf : 300 ≤ f) {T : List Nat} (hT : noOp T) : ∀ (m p o c : Nat) (U : List Nat) (fl n12 : Int32) (a72 a73 : List Int32) (R : R9), p ≤ N → N + 1 - p ≤ m → (∀ k ∈ U, isOp k ∨ k = 14) → o ≤ 6 → nbk U ≤ o → c + ctn (U ++ T) + e ≤ p → (U ++ T).length ≤ p → PS (U ++ T) a73 → a73.length = 260 → R = km_readsSum_14 f (nI N) tb (nI T.length) m (nI p) fl n12 (nI o) (nI c) (nI (U ++ T).length) a72 a73 → oM tb N true p o (nbk U) (o - nbk U) fl e T R := by
  intro m
  induction m with
  | zero =>
    intro p o c U fl n12 a72 a73 R hp hm
    omega
  | succ m ih =>
    intro p o c U fl n12 a72 a73 R hp hm hU ho hb hc hl hP h260 hR
    have hA := rS_A (s := sG tb N) (N := N) hp o (nbk U)
    have lU : U.length ≤ (U ++ T).length := by
      rw [List.length_append]
      omega
    obtain ⟨V, W, hVW, hV, hW⟩ := sp_op U hU
    obtain ⟨cV1, cV2⟩ := ctn_op V hV
    have eUT : U ++ T = V ++ (W ++ T) := by rw [hVW, List.append_assoc]
    have lVW : (U ++ T).length = V.length + (W ++ T).length := by rw [eUT, List.length_append]
    have cVW : ctn (U ++ T) = V.length + ctn (W ++ T) := by rw [eUT, ctn_app, cV1]
    have nVW : nbk U = nbk W := by rw [hVW, nb_app, cV2]; omega
    have hWT : noOp (W ++ T) := by
      rcases hW with rfl | ⟨W', rfl⟩
      · exact hT
      · exact Or.inr ⟨14, W' ++ T, rfl, by omega, fun z => by unfold isOp at z; omega⟩
    have hPW : PS (W ++ T) a73 := ps_drop (U := V) (by rw [← eUT]; exact hP)
    obtain ⟨b72, hcl⟩ := cl_1 (a := a73) hWT V f c a72 hV (by omega) (by omega) (by rw [← eUT]; omega) (by rw [← eUT]; exact hP)
    rw [← eUT] at hcl
    have hcl1 : km_closesSums f (nI c) (nI (U ++ T).length) a72 a73 1 = (nI (c + V.length), nI (W ++ T).length, b72) := by
      unfold km_closesSums
      rw [hcl]
    rw [e_km_readsSum_14, lt_e, lt_e, he_s hN hp] at hR
    by_cases g : km_sumSign (sG tb N p) = -1
    · rw [if_pos g] at hR
      have hA := hA.trans (if_pos g)
      have ends : nbk U = 0 → R = (1, nI p, fl, n12, nI o, nI (c + V.length), nI (W ++ T).length, b72, a73) → ¬ (sG tb N p = 93 ∧ 0 < nbk U) → oM tb N true p o (nbk U) (o - nbk U) fl e T R := fun n0 hR hx => by
        have hW0 : W = [] := by
          rcases hW with h | ⟨W', h⟩
          · exact h
          · rw [h] at nVW
            have e9 : nbk (14 :: W') = nbk W' + 1 := rfl
            omega
        subst hW0
        subst hR
        refine Or.inl ⟨p, c + V.length, hA.trans ((if_neg hx).trans (if_neg (by omega))), rfl, rfl, rfl, ?_, rfl, ?_, rfl, hPW, h260⟩
        · show nI o = nI (o - nbk U)
          rw [n0]
          rfl
        · have e9 : ctn ([] ++ T) = ctn T := rfl
          omega
      by_cases x : sG tb N p = 93
      · have pl := in_of (s := sG tb N) sG_e (p := p) (by rw [x]; decide)
        rw [if_pos x, lt_e] at hR
        rcases hos_e hU hP (by omega) with ⟨h1, h2⟩ | ⟨h1, h2⟩
        · rw [if_pos h1, lt_e, hcl1] at hR
          exact ends h2 hR (fun z => by omega)
        · rw [if_neg (by rw [h1]; decide), lt_e, hcl1] at hR
          have hA := hA.trans (if_pos ⟨x, h2⟩)
          obtain ⟨W', hW'⟩ : ∃ W', W = 14 :: W' := by
            rcases hW with h | h
            · rw [h] at nVW
              have e9 : nbk [] = 0 := rfl
              omega
            · exact h
          subst hW'
          have e1 : nbk (14 :: W') = nbk W' + 1 := rfl
          have e2 : ctn (14 :: W' ++ T) = ctn (W' ++ T) := rfl
          have e3 : (14 :: W' ++ T).length = (W' ++ T).length + 1 := rfl
          have e4 : nI o - 1 = nI (o - 1) := by
            rw [show o = o - 1 + 1 by omega, nI_p1 (by omega), show o - 1 + 1 - 1 = o - 1 by omega]
          have hR : R = km_readsSum_14 f (nI N) tb (nI T.length) m (nI p + 1) fl n12 (nI o - 1) (nI (c + V.length)) (nI ((W' ++ T).length + 1) - 1) b72 a73 := hR
          rw [nJ_1 (n := p) (by omega), e4, nI_p1 (by omega)] at hR
          have k := ih (p + 1) (o - 1) (c + V.length) W' fl n12 b72 a73 R (by omega) (by omega) (fun y hy => hU y (by rw [hVW]; exact List.mem_append_right _ (List.mem_cons_of_mem _ hy))) (by omega) (by omega) (by omega) (by omega) hPW.2 h260 hR
          have e5 : nbk U - 1 = nbk W' := by omega
          rw [e5] at hA
          unfold oM at k ⊢
          rw [hA]
          rw [show o - 1 - nbk W' = o - nbk U by omega] at k
          exact k
      · rw [if_neg x, lt_e] at hR
        have hA := hA.trans (if_neg (fun z => x z.1))
        rcases hos_e hU hP (by omega) with ⟨h1, h2⟩ | ⟨h1, h2⟩
        · rw [if_pos h1, lt_e, hcl1] at hR
          exact ends h2 hR (fun z => x z.1)
        · rw [if_neg (by rw [h1]; decide), lt_e] at hR
          have hA := hA.trans (if_pos h2)
          subst hR
          exact Or.inr ⟨hA, rfl⟩
    · have pl := in_of (s := sG tb N) sG_e (p := p) (fun z => g (by rw [z]; exact em_sign))
      rw [if_neg g] at hR
      have hA := hA.trans (if_neg g)
      obtain ⟨k, k1, k2⟩ : ∃ k, isOp k ∧ km_sumSign (sG tb N p) = nI k := by
        unfold km_sumSign at g ⊢
        by_cases c1 : sG tb N p = 43
        · rw [if_pos c1]
          exact ⟨2, ⟨by omega, by omega⟩, rfl⟩
        · rw [if_neg c1] at g ⊢
          by_cases c2 : sG tb N p = 45
          · rw [if_pos c2]
            exact ⟨3, ⟨by omega, by omega⟩, rfl⟩
          · rw [if_neg c2] at g ⊢
            by_cases c3 : sG tb N p = 42
            · rw [if_pos c3]
              exact ⟨4, ⟨by omega, by omega⟩, rfl⟩
            · rw [if_neg c3] at g ⊢
              by_cases c4 : sG tb N p = 47
              · rw [if_pos c4]
                exact ⟨5, ⟨by omega, by omega⟩, rfl⟩
              · rw [if_neg c4] at g ⊢
                by_cases c5 : sG tb N p = 37
                · rw [if_pos c5]
                  exact ⟨6, ⟨by omega, by omega⟩, rfl⟩
                · rw [if_neg c5] at g
                  exact absurd rfl g
      rw [k2] at hR
      -- a sign, then a factor
      have go : ∀ (A B : List Nat) (d72 : List Int32) (Y : R9), U = A ++ B → (∀ x ∈ A, isOp x) → Y = km_readsFactor f (nI p + 1) (nI N) fl n12 (nI o) (nI (c + A.length)) (nI (B ++ T).length + 1) tb d72 (a73.set (nI (B ++ T).length).toInt.toNat (1048576 * nI k)) → R = (if Y.1 = 0 then (0, Y.2.1, Y.2.2.1, Y.2.2.2.1, Y.2.2.2.2.1, Y.2.2.2.2.2.1, Y.2.2.2.2.2.2.1, Y.2.2.2.2.2.2.2.1, Y.2.2.2.2.2.2.2.2) else km_readsSum_14 f (nI N) tb (nI T.length) m Y.2.1 Y.2.2.1 Y.2.2.2.1 Y.2.2.2.2.1 Y.2.2.2.2.2.1 Y.2.2.2.2.2.2.1 Y.2.2.2.2.2.2.2.1 Y.2.2.2.2.2.2.2.2) → oM tb N true p o (nbk U) (o - nbk U) fl e T R := fun A B d72 Y hAB hA' hY hR => by
        obtain ⟨cA1, cA2⟩ := ctn_op A hA'
        have eB : U ++ T = A ++ (B ++ T) := by rw [hAB, List.append_assoc]
        have lB : (U ++ T).length = A.length + (B ++ T).length := by rw [eB, List.length_append]
        have cB : ctn (U ++ T) = A.length + ctn (B ++ T) := by rw [eB, ctn_app, cA1]
        have nB : nbk U = nbk B := by rw [hAB, nb_app, cA2]; omega
        have hPB : PS (B ++ T) a73 := ps_drop (U := A) (by rw [← eB]; exact hP)
        unfold isOp at k1
        have hPk : PS (k :: (B ++ T)) (a73.set (B ++ T).length (1048576 * nI k)) := ps_push hPB (by omega) (kv_1 k (by omega))
        unfold km_readsFactor at hY
        rw [nJ_1 (n := p) (by omega), nJ_1 (n := (B ++ T).length) (by omega), nJ_ix (n := (B ++ T).length) (by omega)] at hY
        rcases m_fac (tb := tb) hN hf (c := c + A.length) (by omega) f (p + 1) o (k :: (B ++ T)) fl _ Y (by omega) (by omega) (by show (B ++ T).length + 1 ≤ p + 1; omega) hPk (by rw [List.length_set]; exact h260) ho hY with ⟨q, j, h1, h2, h3, h4, h5, h6, h7, h8, h9, h10, h11, h12⟩ | ⟨h1, h2⟩
        · rw [if_neg (by rw [h4]; decide), h5, h6, h7, h8, h9] at hR
          obtain ⟨n1, n2, n3⟩ := nb_rep (k :: (B ++ T)) j
          have eU : List.replicate j 14 ++ (k :: (B ++ T)) = (List.replicate j 14 ++ (k :: B)) ++ T := by rw [List.append_assoc]; rfl
          have n4 : nbk (List.replicate j 14 ++ (k :: B)) = j + nbk B := by
            rw [(nb_rep (k :: B) j).1]
            show j + (nbk B + (if k = 14 then 1 else 0)) = _
            rw [if_neg (by omega)]
            rfl
          have n5 : ctn (k :: (B ++ T)) = ctn (B ++ T) + 1 := by
            show ctn (B ++ T) + (if k ≤ 10 then 1 else 0) = _
            rw [if_pos (by omega)]
          have n6 : (k :: (B ++ T)).length = (B ++ T).length + 1 := rfl
          rw [eU] at h9 h10 n2 n3 hR
          have K := ih q (o + j) (c + A.length + 1) (List.replicate j 14 ++ (k :: B)) fl _ _ _ R h2 (by omega) (fun y hy => by
            rcases List.mem_append.mp hy with hy | hy
            · exact Or.inr (List.eq_of_mem_replicate hy)
            · rcases List.mem_cons.mp hy with w | w
              · exact Or.inl (by rw [w]; exact ⟨k1.1, k1.2⟩)
              · exact hU y (by rw [hAB]; exact List.mem_append_right _ w)) h3 (by omega) (by omega) (by omega) h10 h11 hR
          have hA := hA.trans (h12 (nbk U))
          rw [n4, show o + j - (j + nbk B) = o - nbk U by omega, show j + nbk B = nbk U + j by omega] at K
          unfold oM at K ⊢
          rw [hA]
          exact K
        · rw [if_pos h1] at hR
          subst hR
          exact Or.inr ⟨hA.trans (h2 (nbk U)), rfl⟩
      by_cases k4 : (nI k).toInt < 4
      · rw [if_pos k4, lt_e, hcl1, lt_e] at hR
        exact go V W b72 _ hVW hV rfl hR
      · obtain ⟨A, B, d72, hAB, hd⟩ := cl_0 (a := a73) hWT V f c a72 hV (by omega) (by omega) (by rw [← eUT]; omega) (by rw [← eUT]; exact hP)
        rw [← eUT] at hd
        have hcl0 : km_closesSums f (nI c) (nI (U ++ T).length) a72 a73 0 = (nI (c + A.length), nI (B ++ (W ++ T)).length, d72) := by
          unfold km_closesSums
          rw [hd]
        rw [if_neg k4, lt_e, hcl0, lt_e] at hR
        have e1 : B ++ (W ++ T) = (B ++ W) ++ T := (List.append_assoc B W T).symm
        rw [e1] at hR
        exact go A (B ++ W) d72 _ (by rw [hVW, hAB, List.append_assoc]) (fun x hx => hV x (by rw [hAB]; exact List.mem_append_left _ hx)) rfl hR
theorem m_sum (hN : N ≤ 240) {f e : Nat} (hf : 300 ≤ f) {T : List Nat} (hT : noOp T) {p o c : Nat} {fl n12 : Int32} {a72 a73 : List Int32} {R : R9} (hp : p ≤ N) (ho : o ≤ 6) (hc : c + ctn T + e ≤ p) (hl : T.length ≤ p) (hP : PS T a73) (h260 : a73.length = 260) (hR : R = km_readsSum f (nI p) (nI N) fl n12 (nI o) (nI c) (nI T.length) tb a72 a73) : oM tb N false p o 0 o fl e T R := by
  unfold km_readsSum at hR
  rw [lt_e] at hR
  generalize hY : km_readsFactor f (nI p) (nI N) fl n12 (nI o) (nI c) (nI T.length) tb a72 a73 = Y at hR
  unfold km_readsFactor at hY
  rcases m_fac (tb := tb) hN hf (c := c) (by omega) f p o T fl _ Y hp (by omega) hl hP h260 ho hY.symm with ⟨q, j, h1, h2, h3, h4, h5, h6, h7, h8, h9, h10, h11, h12⟩ | ⟨h1, h2⟩
  · rw [if_neg (by rw [h4]; decide), h5, h6, h7, h8, h9] at hR
    obtain ⟨n1, n2, n3⟩ := nb_rep T j
    have n4 : nbk (List.replicate j 14) = j := by
      have := (nb_rep [] j).1
      rw [List.append_nil] at this
      exact this
    have K := m_sum14 (tb := tb) (e := e) hN hf hT f q (o + j) (c + 1) (List.replicate j 14) fl _ _ _ R h2 (by omega) (fun y hy => Or.inr (List.eq_of_mem_replicate hy)) h3 (by omega) (by omega) (by omega) h10 h11 hR
    rw [n4, show o + j - j = o by omega] at K
    have w := h12 0
    rw [Nat.zero_add] at w
    unfold oM at K ⊢
    rw [w]
    exact K
  · rw [if_pos h1] at hR
    subst hR
    exact Or.inr ⟨h2 0, rfl⟩
end MS
