/-! an agenda: read by recursion on one side, by a stack on the other -/
section AG
variable {Mn : Nat} {M t E f11 : Int32} {bi W2 ta tb a : List Int32} {l11 : List Int64} {now : List Int32}
/-- the reference's run behind a value -/
noncomputable def aP (M E f11 : Int32) (now tb : List Int32) (m d : Nat) (v p : Int32) (a : List Int32) : Int32 × Int32 × Int32 × Int32 × Int32 × List Int32 := sE (km_agenda_114 0 E now tb a d (nI d) v p) (fun rr1 => rr1) (fun ss1 => (if ss1.1 = 0 then (if ss1.2.2.toInt < E.toInt then ((km_wrongOf ss1.2.2 1).1, 0, ss1.2.2, E, (km_wrongOf ss1.2.2 1).2, a) else (ss1.2.1, 0, ss1.2.2, E, f11, a)) else (km_agenda_37 M 0 E f11 now tb m ss1.1 ss1.2.2 (a.set (ss1.1 - 1).toInt.toNat ss1.2.1))))
theorem fail_60 : ∀ p, p ≤ 60 → (km_wrongOf (nI p) 1).1 ≠ 0 ∧ (km_wrongOf (nI p) 5).1 ≠ 0 := by decide +kernel
theorem here_b {p E : Int32} {tb : List Int32} : -1 ≤ (km_here p E tb).toInt ∧ (km_here p E tb).toInt ≤ 255 ∧ (km_here p E tb ≠ -1 → p.toInt < E.toInt) := by
  unfold km_here
  by_cases c : p.toInt < E.toInt
  · rw [if_pos c]
    have l : ((tb.getD p.toInt.toNat 0) &&& 255).toBitVec.toNat < 256 := by
      rw [Int32.toBitVec_and, BitVec.toNat_and]
      exact Nat.lt_of_le_of_lt Nat.and_le_right (by decide)
    have e : ((tb.getD p.toInt.toNat 0) &&& 255).toInt = ((tb.getD p.toInt.toNat 0) &&& 255).toBitVec.toNat := BitVec.toInt_eq_toNat_of_lt (by omega)
    rw [e]
    exact ⟨by omega, by omega, fun _ => c⟩
  · rw [if_neg c]
    exact ⟨by decide, by decide, fun z => absurd rfl z⟩
theorem letter_eq (h : VC Mn M t bi l11 now) {c : Int32} (hc : -1 ≤ c.toInt ∧ c.toInt ≤ 255) : (kc_within c 97 ((97 + M) - 1) = 0 ∧ km_isMeasure M (c - 97) = 0) ∨ (¬ kc_within c 97 ((97 + M) - 1) = 0 ∧ ¬ km_isMeasure M (c - 97) = 0 ∧ c ≠ 40 ∧ ∃ v, v < Mn ∧ c - 97 = nI v) := by
  have hM := h.2.1
  have e97 : (97 : Int32).toInt = 97 := rfl
  have e0 : (0 : Int32).toInt = 0 := rfl
  have eM := (by decide +kernel : ∀ n : Nat, n < 7 → 2 ≤ n → ((97 + nI n) - 1).toInt = 96 + (n : Int) ∧ (nI n - 1).toInt = (n : Int) - 1) Mn (by omega) hM.1
  rw [← nJ_of h.1] at eM
  have ec : (c - 97).toInt = c.toInt - 97 := by rw [an_sub32 (by omega) (by omega), e97]
  have i1 := in_0 (x := c) (a := 97) (b := (97 + M) - 1)
  have i2 := in_0 (x := c - 97) (a := 0) (b := M - 1)
  rw [e97, eM.1] at i1
  rw [e0, ec, eM.2] at i2
  unfold km_isMeasure
  rw [within_in]
  by_cases z : 97 ≤ c.toInt ∧ c.toInt ≤ 96 + (Mn : Int)
  · refine Or.inr ⟨fun y => (i1.mp y) z, fun y => (i2.mp y) (by omega), fun y => ?_, (c.toInt - 97).toNat, by omega, nJ_of (by omega)⟩
    rw [y] at z
    exact absurd z.1 (by decide)
  · exact Or.inl ⟨i1.mpr z, i2.mpr (fun y => z (by omega))⟩
theorem wins_cm (h : VC Mn M t bi l11 now) (p3 : ∀ i, i < Mn → ∀ k, k < 32 → b32 (W2.getD i 0) k = decide (k < Mn ∧ (pS t bi now k i).toInt < (pS t bi now i k).toInt)) {v w : Nat} (hv : v < Mn) (hw : w < Mn) : kv_winnerOf M W2 (nI v) (nI w) = km_winsOf now (nI v) (nI w) ∧ ∃ u, u < Mn ∧ km_winsOf now (nI v) (nI w) = nI u := by
  have hM := h.2.1
  have im : ∀ i, i < Mn → ¬ kt_isMeasure M (nI i) = 0 := fun i hi => by
    have ei := nI_toInt (n := i) (by omega)
    have := h.1
    unfold kt_isMeasure
    rw [if_neg (by omega), if_pos (by omega)]
    decide
  have q := p3 w hw v (by omega)
  unfold kv_winnerOf km_winsOf
  rw [if_neg (im v hv), if_neg (im w hw), nJ_ix (n := w) (by omega), beats_m h hw hv]
  by_cases c : (pS t bi now v w).toInt < (pS t bi now w v).toInt
  · rw [if_neg (vt1 (by omega) (q.trans (decide_eq_true ⟨hv, c⟩))), if_pos c, if_neg (show ¬ (1 : Int32) = 0 by decide)]
    exact ⟨rfl, w, hw, rfl⟩
  · rw [if_pos (vt0 (by omega) (q.trans (decide_eq_false (fun z => c z.2)))), if_neg c, if_pos (show (0 : Int32) = 0 from rfl)]
    exact ⟨rfl, v, hv, rfl⟩
theorem ag_sim (h : VC Mn M t bi l11 now) (p3 : ∀ i, i < Mn → ∀ k, k < 32 → b32 (W2.getD i 0) k = decide (k < Mn ∧ (pS t bi now k i).toInt < (pS t bi now i k).toInt)) {e : Nat} (he : E = nI e) (he60 : e ≤ 60) (hs : ∀ p, p ≤ 60 → kx_sign E (nI p) ta = km_here (nI p) E tb) : ∀ (k d p n : Nat) (a : List Int32), d + k = 8 → p ≤ e → a.length = 9 → k < n → ((ka_winnerOf n E (nI p) 0 M ta W2 M (nI d)).2.2 ≠ 0 ∧ ∃ c, ∀ m, (km_agenda_37 M 0 E f11 now tb (m + c) (nI d) (nI p) a).1 = (ka_winnerOf n E (nI p) 0 M ta W2 M (nI d)).2.2) ∨ ((ka_winnerOf n E (nI p) 0 M ta W2 M (nI d)).2.2 = 0 ∧ ∃ (v p' : Nat) (a' : List Int32) (c : Nat), v < Mn ∧ (ka_winnerOf n E (nI p) 0 M ta W2 M (nI d)).1 = nI v ∧ (ka_winnerOf n E (nI p) 0 M ta W2 M (nI d)).2.1 = nI p' ∧ p' ≤ e ∧ a'.length = 9 ∧ (∀ j, j < d → a'.getD j 0 = a.getD j 0) ∧ ∀ m, km_agenda_37 M 0 E f11 now tb (m + c) (nI d) (nI p) a = aP M E f11 now tb m d (nI v) (nI p') a') := by
  have hM := h.2.1
  have eE : E.toInt = (e : Int) := by rw [he, nI_toInt (by omega)]
  intro k
  induction k with
  | zero =>
    intro d p n a hd hp ha hn
    obtain ⟨n, rfl⟩ : ∃ n', n = n' + 1 := ⟨n - 1, by omega⟩
    rw [show ka_winnerOf (n + 1) E (nI p) 0 M ta W2 M (nI d) = ka_winnerOf_b (ka_winnerOf n) E (nI p) 0 M ta W2 M (nI d) from rfl]
    have hb := here_b (p := nI p) (E := E) (tb := tb)
    have st : ∀ m, km_agenda_37 M 0 E f11 now tb (m + 1) (nI d) (nI p) a = _ := fun m => e_km_agenda_37
    unfold ka_winnerOf_b
    rw [hs p (by omega), if_pos (show (0 : Int32) = 0 from rfl)]
    rcases letter_eq h (c := km_here (nI p) E tb) ⟨hb.1, hb.2.1⟩ with ⟨w1, w2⟩ | ⟨w1, w2, w3, v, hv, w4⟩
    · rw [if_pos w1]
      by_cases c40 : km_here (nI p) E tb = 40
      · rw [if_pos c40, if_neg (show ¬ (nI d).toInt < 8 by rw [nI_toInt (by omega)]; omega)]
        refine Or.inl ⟨?_, 1, fun m => ?_⟩
        · show (kx_fail (nI p) 0 5).2 ≠ 0
          rw [fail_eq]
          exact (fail_60 p (by omega)).2
        · rw [st, if_pos c40, if_pos (show nI d = 8 by rw [show d = 8 by omega]; rfl)]
          exact fail_eq.symm
      · rw [if_neg c40]
        refine Or.inl ⟨?_, 1, fun m => ?_⟩
        · show (kx_fail (nI p) 0 1).2 ≠ 0
          rw [fail_eq]
          exact (fail_60 p (by omega)).1
        · rw [st, if_neg c40, if_pos w2]
          exact fail_eq.symm
    · rw [if_neg w1]
      have pe : p < e := by
        have := hb.2.2 (fun z => by
          rw [z] at w4
          have e1 := nI_toInt (n := v) (by omega)
          rw [← w4] at e1
          have : ((-1 : Int32) - 97).toInt = -98 := rfl
          omega)
        rw [eE, nI_toInt (by omega)] at this
        omega
      refine Or.inr ⟨rfl, v, p + 1, a, 1, hv, w4, nJ_1 (by omega), by omega, ha, fun _ _ => rfl, fun m => ?_⟩
      rw [st, if_neg w3, if_neg w2, w4, nJ_ix (n := d) (by omega), nJ_1 (n := p) (by omega)]
      rfl
  | succ k ih =>
    intro d p n a hd hp ha hn
    obtain ⟨n, rfl⟩ : ∃ n', n = n' + 1 := ⟨n - 1, by omega⟩
    have skip : ∀ (q x : Int32), x ≠ 0 → ka_winnerOf n E q x M ta W2 M (nI (d + 1)) = (-1, q, x) := fun q x hx => by
      obtain ⟨n', rfl⟩ : ∃ n', n = n' + 1 := ⟨n - 1, by omega⟩
      show ka_winnerOf_b (ka_winnerOf n') E q x M ta W2 M (nI (d + 1)) = _
      unfold ka_winnerOf_b
      rw [if_neg hx]
    rw [show ka_winnerOf (n + 1) E (nI p) 0 M ta W2 M (nI d) = ka_winnerOf_b (ka_winnerOf n) E (nI p) 0 M ta W2 M (nI d) from rfl]
    have hb := here_b (p := nI p) (E := E) (tb := tb)
    have st : ∀ m, km_agenda_37 M 0 E f11 now tb (m + 1) (nI d) (nI p) a = _ := fun m => e_km_agenda_37
    unfold ka_winnerOf_b
    rw [hs p (by omega), if_pos (show (0 : Int32) = 0 from rfl)]
    rcases letter_eq h (c := km_here (nI p) E tb) ⟨hb.1, hb.2.1⟩ with ⟨w1, w2⟩ | ⟨w1, w2, w3, v, hv, w4⟩
    · rw [if_pos w1]
      by_cases c40 : km_here (nI p) E tb = 40
      · have pe : p < e := by
          have := hb.2.2 (fun z => by rw [z] at c40; exact absurd c40 (by decide))
          rw [eE, nI_toInt (by omega)] at this
          omega
        rw [if_pos c40, if_pos (show (nI d).toInt < 8 by rw [nI_toInt (by omega)]; omega), nJ_1 (n := p) (by omega), nJ_1 (n := d) (by omega)]
        have s1 : ∀ m, km_agenda_37 M 0 E f11 now tb (m + 1) (nI d) (nI p) a = km_agenda_37 M 0 E f11 now tb m (nI (d + 1)) (nI (p + 1)) (a.set d (-1)) := fun m => by
          rw [st, if_pos c40, if_neg (show ¬ nI d = 8 from fun z => by
            have e1 := nI_toInt (n := d) (by omega)
            rw [z] at e1
            have : (8 : Int32).toInt = 8 := rfl
            omega), nJ_1 (n := d) (by omega), nJ_1 (n := p) (by omega), nJ_ix (n := d) (by omega)]
        have IH1 := ih (d + 1) (p + 1) n (a.set d (-1)) (by omega) (by omega) (by rw [List.length_set]; exact ha) (by omega)
        generalize ka_winnerOf n E (nI (p + 1)) 0 M ta W2 M (nI (d + 1)) = L at IH1 ⊢
        rcases IH1 with ⟨l1, c1, l2⟩ | ⟨l1, v1, p1, a1, c1, hv1, l2, l3, hp1, ha1, hj1, l4⟩
        · rw [skip _ _ l1]
          have ps : kx_pass E L.2.1 L.2.2 ta 41 = (L.2.1, L.2.2) := by
            unfold kx_pass
            rw [if_neg l1]
          rw [show ((-1, L.2.1, L.2.2) : Int32 × Int32 × Int32).2.1 = L.2.1 from rfl, show ((-1, L.2.1, L.2.2) : Int32 × Int32 × Int32).2.2 = L.2.2 from rfl, ps, if_neg (show ¬ ((L.2.1, L.2.2) : Int32 × Int32).2 = 0 from l1)]
          refine Or.inl ⟨l1, c1 + 1, fun m => ?_⟩
          rw [← Nat.add_assoc, s1]
          exact l2 m
        · rw [l1, l3]
          have s2 : ∀ m, km_agenda_37 M 0 E f11 now tb (m + c1 + 1) (nI d) (nI p) a = km_agenda_37 M 0 E f11 now tb m (nI (d + 1)) (nI p1) (a1.set d (nI v1)) := fun m => by
            have i1 : (nI (d + 1) - 1).toInt.toNat = d := by
              have e1 : (1 : Int32).toInt = 1 := rfl
              have e2 := nI_toInt (n := d + 1) (by omega)
              rw [an_sub32 (by omega) (by omega), e1]
              omega
            rw [s1, l4]
            unfold aP
            rw [e_km_agenda_114, i1, hj1 d (by omega), gd_set (by omega), if_pos rfl, if_pos (show (-1 : Int32) = -1 from rfl)]
            show (if nI (d + 1) = 0 then _ else _) = _
            rw [if_neg (show ¬ nI (d + 1) = 0 from fun z => by
              have e2 := nI_toInt (n := d + 1) (by omega)
              rw [z] at e2
              have : (0 : Int32).toInt = 0 := rfl
              omega)]
            show km_agenda_37 M 0 E f11 now tb m (nI (d + 1)) (nI p1) (a1.set (nI (d + 1) - 1).toInt.toNat (nI v1)) = _
            rw [i1]
          have IH2 := ih (d + 1) p1 n (a1.set d (nI v1)) (by omega) hp1 (by rw [List.length_set]; exact ha1) (by omega)
          generalize ka_winnerOf n E (nI p1) 0 M ta W2 M (nI (d + 1)) = R at IH2 ⊢
          rcases IH2 with ⟨r1, c2, r2⟩ | ⟨r1, v2, p2, a2, c2, hv2, r2, r3, hp2, ha2, hj2, r4⟩
          · have ps : kx_pass E R.2.1 R.2.2 ta 41 = (R.2.1, R.2.2) := by
              unfold kx_pass
              rw [if_neg r1]
            rw [ps, if_neg (show ¬ ((R.2.1, R.2.2) : Int32 × Int32).2 = 0 from r1)]
            refine Or.inl ⟨r1, c2 + (c1 + 1), fun m => ?_⟩
            rw [show m + (c2 + (c1 + 1)) = (m + c2) + c1 + 1 by omega, s2]
            exact r2 m
          · obtain ⟨u1, u, hu, u2⟩ := wins_cm h p3 hv1 hv2
            have i1 : (nI (d + 1) - 1).toInt.toNat = d ∧ nI (d + 1) - 1 = nI d := by
              have e1 : (1 : Int32).toInt = 1 := rfl
              have e2 := nI_toInt (n := d + 1) (by omega)
              have e3 := nI_toInt (n := d) (by omega)
              have e4 : (nI (d + 1) - 1).toInt = (d : Int) := by
                rw [an_sub32 (by omega) (by omega), e1]
                omega
              exact ⟨by omega, nJ_of e4⟩
            have s3 : ∀ m, km_agenda_37 M 0 E f11 now tb (m + (c2 + (c1 + 1))) (nI d) (nI p) a = aP M E f11 now tb m (d + 1) (nI v2) (nI p2) a2 := fun m => by
              rw [show m + (c2 + (c1 + 1)) = (m + c2) + c1 + 1 by omega, s2]
              exact r4 m
            have g2 : a2.getD d 0 = nI v1 := by rw [hj2 d (by omega), gd_set (by omega), if_pos rfl]
            rw [r1, r3]
            unfold kx_pass
            rw [if_pos (show (0 : Int32) = 0 from rfl), hs p2 (by omega)]
            by_cases c41 : km_here (nI p2) E tb = 41
            · have pe2 : p2 < e := by
                have := (here_b (p := nI p2) (E := E) (tb := tb)).2.2 (fun z => by rw [z] at c41; exact absurd c41 (by decide))
                rw [eE, nI_toInt (by omega)] at this
                omega
              rw [if_pos c41, if_pos (show ((nI p2 + 1, (0 : Int32)) : Int32 × Int32).2 = 0 from rfl), l2, r2, u1, u2]
              refine Or.inr ⟨rfl, u, p2 + 1, a2, c2 + (c1 + 1), hu, rfl, nJ_1 (by omega), by omega, ha2, fun j hj => ?_, fun m => ?_⟩
              · rw [hj2 j (by omega), gd_set (by omega), if_neg (by omega), hj1 j (by omega), gd_set (by omega), if_neg (by omega)]
              · rw [s3]
                unfold aP
                rw [e_km_agenda_114, i1.1, g2, if_neg (nI_m1 (by omega)), if_pos c41, i1.2, u2, nJ_1 (n := p2) (by omega)]
            · rw [if_neg c41]
              have nz : (kx_fail (nI p2) 0 1).2 ≠ 0 := by
                rw [fail_eq]
                exact (fail_60 p2 (by omega)).1
              rw [if_neg (show ¬ ((nI p2, (kx_fail (nI p2) 0 1).2) : Int32 × Int32).2 = 0 from nz)]
              refine Or.inl ⟨nz, c2 + (c1 + 1), fun m => ?_⟩
              rw [s3]
              unfold aP
              rw [e_km_agenda_114, i1.1, g2, if_neg (nI_m1 (by omega)), if_neg c41]
              exact fail_eq.symm
      · rw [if_neg c40]
        refine Or.inl ⟨?_, 1, fun m => ?_⟩
        · show (kx_fail (nI p) 0 1).2 ≠ 0
          rw [fail_eq]
          exact (fail_60 p (by omega)).1
        · rw [st, if_neg c40, if_pos w2]
          exact fail_eq.symm
    · rw [if_neg w1]
      have pe : p < e := by
        have := hb.2.2 (fun z => by
          rw [z] at w4
          have e1 := nI_toInt (n := v) (by omega)
          rw [← w4] at e1
          have : ((-1 : Int32) - 97).toInt = -98 := rfl
          omega)
        rw [eE, nI_toInt (by omega)] at this
        omega
      refine Or.inr ⟨rfl, v, p + 1, a, 1, hv, w4, nJ_1 (by omega), by omega, ha, fun _ _ => rfl, fun m => ?_⟩
      rw [st, if_neg w3, if_neg w2, w4, nJ_ix (n := d) (by omega), nJ_1 (n := p) (by omega)]
      rfl
theorem agenda_pure (h : VC Mn M t bi l11 now) {a32 a33 a91 : List Int32} (h32 : a32.length = 36) (h33 : a33.length = 6) (h91 : a91.length = 9) {n1 f8 f9 f10 f11 g2 g3 g4 x : Int32} (hT : R2v n1 ta f8 tb) (hl : ta.length = 260) {f : Nat} (hf : 9 ≤ f) : ∃ c, ∀ m, (kc_agenda f n1 g2 g3 g4 M t ta bi a32 a33 l11 x).1 = (km_agenda (m + c) M f8 f9 f10 f11 now tb a91 x).1 := by
  obtain ⟨-, -, p3⟩ := weigh_c h h32 h33
  unfold kc_agenda km_agenda
  generalize (kv_weighPairs M t bi a32 a33 l11).2 = W2 at p3
  rw [← hT.1]
  by_cases c : kx_has n1 x 1 60 = 0
  · refine ⟨0, fun m => ?_⟩
    rw [if_pos c, has_ref, if_pos c]
  · have hx : (1 ≤ x.toInt ∧ x.toInt ≤ 60) ∧ x.toInt ≤ n1.toInt := by
      have c' := c
      rw [has_eq, Decidable.not_not] at c'
      refine ⟨?_, c'.2⟩
      have := (not_congr (in_0 (x := x) (a := 1) (b := 60))).mp (by rw [c'.1]; decide)
      rw [Decidable.not_not] at this
      exact this
    have hs : ∀ p, p ≤ 60 → kx_sign x (nI p) ta = km_here (nI p) x tb := fun p hp => by
      have e1 := nI_toInt (n := p) (by omega)
      have e2 : (Int32.ofNat ta.length).toInt = 260 := by rw [hl]; rfl
      unfold kx_sign km_here
      rw [if_neg (by omega), e2]
      by_cases a : (nI p).toInt < x.toInt
      · rw [if_pos a, if_pos a, if_pos (by omega), nJ_ix (n := p) (by omega)]
        exact hT.2 p (by omega)
      · rw [if_neg a, if_neg a]
    have sim := ag_sim (f11 := f11) h p3 (E := x) (e := x.toInt.toNat) (nJ_of (by omega)) (by omega) hs 8 0 0 f a91 rfl (by omega) h91 (by omega)
    show ∃ c, ∀ m, (if kx_has n1 x 1 60 = 0 then _ else (if (ka_readAgenda f x 0 0 M ta W2 M).2.2 = 0 then ((ka_readAgenda f x 0 0 M ta W2 M).1, _) else ((ka_readAgenda f x 0 0 M ta W2 M).2.2, _)) : Int32 × Int32 × Int32 × Int32 × Int32 × List Int32 × List Int32).1 = _
    rw [if_neg c]
    have er : ka_readAgenda f x 0 0 M ta W2 M = (if (ka_winnerOf f x (nI 0) 0 M ta W2 M (nI 0)).2.2 = 0 then (if (kx_sign x (ka_winnerOf f x (nI 0) 0 M ta W2 M (nI 0)).2.1 ta) = (-1) then ((ka_winnerOf f x (nI 0) 0 M ta W2 M (nI 0)).1, (ka_winnerOf f x (nI 0) 0 M ta W2 M (nI 0)).2.1, (ka_winnerOf f x (nI 0) 0 M ta W2 M (nI 0)).2.2) else ((ka_winnerOf f x (nI 0) 0 M ta W2 M (nI 0)).1, (ka_winnerOf f x (nI 0) 0 M ta W2 M (nI 0)).2.1, (kx_fail (ka_winnerOf f x (nI 0) 0 M ta W2 M (nI 0)).2.1 (ka_winnerOf f x (nI 0) 0 M ta W2 M (nI 0)).2.2 1).2)) else ((ka_winnerOf f x (nI 0) 0 M ta W2 M (nI 0)).1, (ka_winnerOf f x (nI 0) 0 M ta W2 M (nI 0)).2.1, (ka_winnerOf f x (nI 0) 0 M ta W2 M (nI 0)).2.2)) := rfl
    rw [er]
    have em : ∀ m, (if km_in x 1 60 = 0 then ((-1), n1, f9, f10, f11, a91) else (if n1.toInt < x.toInt then ((-1), n1, f9, f10, f11, a91) else (km_agenda_37 M 0 x f11 now tb m 0 0 a91)) : Int32 × Int32 × Int32 × Int32 × Int32 × List Int32) = km_agenda_37 M 0 x f11 now tb m (nI 0) (nI 0) a91 := fun m => by
      rw [has_ref, if_neg c]
      rfl
    generalize ka_winnerOf f x (nI 0) 0 M ta W2 M (nI 0) = K at sim ⊢
    rcases sim with ⟨k1, c1, k2⟩ | ⟨k1, v, p, a', c1, hv, k2, k3, hp, ha', -, k4⟩
    · refine ⟨c1, fun m => ?_⟩
      rw [if_neg k1, if_neg (show ¬ ((K.1, K.2.1, K.2.2) : Int32 × Int32 × Int32).2.2 = 0 from k1), em, k2]
    · have e1 := nI_toInt (n := p) (by omega)
      refine ⟨c1, fun m => ?_⟩
      rw [em, k4, if_pos k1, k1, k3, hs p (by omega)]
      have ep : aP M x f11 now tb m 0 (nI v) (nI p) a' = if (nI p).toInt < x.toInt then ((km_wrongOf (nI p) 1).1, 0, nI p, x, (km_wrongOf (nI p) 1).2, a') else (nI v, 0, nI p, x, f11, a') := rfl
      rw [ep]
      have hn : km_here (nI p) x tb = -1 ↔ ¬ (nI p).toInt < x.toInt := by
        unfold km_here
        by_cases a : (nI p).toInt < x.toInt
        · rw [if_pos a]
          exact ⟨fun z => absurd z (and_255 _), fun z => absurd a z⟩
        · rw [if_neg a]
          exact ⟨fun _ => a, fun _ => rfl⟩
      by_cases a : (nI p).toInt < x.toInt
      · have nz : (kx_fail (nI p) 0 1).2 ≠ 0 := by
          rw [fail_eq]
          exact (fail_60 p (by omega)).1
        rw [if_neg (fun z => (hn.mp z) a), if_pos a, if_neg (show ¬ ((K.1, nI p, (kx_fail (nI p) 0 1).2) : Int32 × Int32 × Int32).2.2 = 0 from nz)]
        exact fail_eq
      · rw [if_pos (hn.mpr a), if_neg a, if_pos (show ((K.1, nI p, (0 : Int32)) : Int32 × Int32 × Int32).2.2 = 0 from rfl)]
        exact k2
end AG
section ANAG
variable {as : List Int32} {hp hp1 hp2 : sm_H} {r1 r2 : Int32}
theorem an_agenda (hl : as.length = 1) (hI : ivH IV hp) (hR : R123 hp) (m1 : EM 400 95 (.ref 0 :: as.map Value.int) hp (some (.int r1)) hp1) (hI1 : ivH IV hp1) (m2 : EM 400 221 (.ref 67 :: as.map Value.int) hp1 (some (.int r2)) hp2) : r1 = r2 := by
  obtain ⟨x, rfl⟩ := ln1 hl
  obtain ⟨N, h1⟩ := u_kc_agenda hI m1
  obtain ⟨e1, h1⟩ := h1 (N + 9) (by omega)
  obtain ⟨N', h2⟩ := u_km_agenda hI1 m2
  have w : exA hp1 68 = exA hp 68 := by rw [h1]; rfl
  have w3 : exF hp1 67 3 = exF hp 3 0 := by rw [hR.1.1.1.1, h1]; rfl
  have w8 : exF hp1 67 8 = exF hp 67 8 := by rw [h1]; rfl
  have w71 : exA hp1 71 = exA hp 71 := by rw [h1]; rfl
  obtain ⟨c, hc⟩ := agenda_pure (vc_of hI hR.1.1 hR.2) (iv_len (k := 32) hI rfl (by decide)) (iv_len (k := 33) hI rfl (by decide)) (iv_len (k := 91) hI1 rfl (by decide)) (f9 := exF hp1 67 9) (f10 := exF hp1 67 10) (f11 := exF hp1 67 11) (g2 := exF hp 1 2) (g3 := exF hp 1 3) (g4 := exF hp 1 4) (x := x) hR.1.2 (iv_len (k := 2) hI rfl (by decide)) (f := N + 9) (by omega)
  obtain ⟨e2, -⟩ := h2 (N' + c) (by omega)
  rw [e1, e2, w, w3, w8, w71]
  exact hc N'
end ANAG
