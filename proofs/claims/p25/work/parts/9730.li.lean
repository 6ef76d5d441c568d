/-! a lie: rows one by one, the class by tallies, the reference by places laid anew -/
theorem FV_eq {n : Nat} {am v v' : Int32} {p p' : Nat → Int32} (h : FV n am p v) (h' : FV n am p' v') (e : ∀ i, i < n → p i = p' i) : v = v' := by
  rcases h with ⟨a, b⟩ | ⟨c, c1, c2, c3, c4, c5⟩
  · rcases h' with ⟨a', -⟩ | ⟨c', d1, -, d3, -⟩
    · rw [a, a']
    · rw [b c' d1] at d3
      cases d3
  · rcases h' with ⟨-, b'⟩ | ⟨c', d1, d2, d3, d4, d5⟩
    · rw [b' c c1] at c3
      cases c3
    · rw [c2, d2]
      refine congrArg nI ?_
      have k1 := c4 c' d1 d3
      have k2 := d4 c c1 c3
      rw [e c c1, e c' d1] at k1
      by_cases l : c < c'
      · have := d5 c l c3
        omega
      · by_cases l2 : c' < c
        · have k3 := c5 c' l2 d3
          rw [e c c1, e c' d1] at k3
          omega
        · omega
theorem sg_but {f f' : Nat → Int32} {g : Nat} {x : Int32} (h0 : f g = 0) (hx : f' g = x) : ∀ (n : Nat), (∀ q, q < n → q ≠ g → f q = f' q) → sg n f + (if g < n then x else 0) = sg n f'
  | 0, _ => by
    rw [if_neg (by omega)]
    exact Int32.add_zero _
  | n + 1, h => by
    have ih := sg_but h0 hx n (fun q hq => h q (by omega))
    show sg n f + f n + (if g < n + 1 then x else 0) = sg n f' + f' n
    by_cases e : n = g
    · subst e
      rw [if_neg (by omega), Int32.add_zero] at ih
      rw [if_pos (by omega), h0, hx, ih, Int32.add_zero]
    · rw [h n (by omega) e, ← ih]
      by_cases l : g < n
      · rw [if_pos l, if_pos (by omega), Int32.add_assoc, Int32.add_comm (f' n) x, ← Int32.add_assoc]
      · rw [if_neg l, if_neg (by omega), Int32.add_zero, Int32.add_zero]
/-- a row of places: each once -/
noncomputable def rq (n : Nat) (p : List Nat) : Bool := (List.range n).all (fun k => Nat.blt (p.getD k 0) n && ((List.range n).any (fun i => Nat.beq (p.getD i 0) k) && (List.range n).all (fun i => Nat.beq i k || !Nat.beq (p.getD i 0) (p.getD k 0))))
theorem rq_b {n : Nat} {p : List Nat} (h : rq n p = true) : (∀ k, k < n → p.getD k 0 < n) ∧ (∀ i, i < n → ∃ k, k < n ∧ p.getD k 0 = i) ∧ ∀ k, k < n → ∀ i, i < n → i ≠ k → p.getD i 0 ≠ p.getD k 0 := by
  have q : ∀ k, k < n → Nat.blt (p.getD k 0) n = true ∧ (List.range n).any (fun i => Nat.beq (p.getD i 0) k) = true ∧ (List.range n).all (fun i => Nat.beq i k || !Nat.beq (p.getD i 0) (p.getD k 0)) = true := fun k hk => by
    have z : (Nat.blt (p.getD k 0) n && ((List.range n).any (fun i => Nat.beq (p.getD i 0) k) && (List.range n).all (fun i => Nat.beq i k || !Nat.beq (p.getD i 0) (p.getD k 0)))) = true := List.all_eq_true.mp h k (List.mem_range.mpr hk)
    rw [Bool.and_eq_true, Bool.and_eq_true] at z
    exact z
  refine ⟨fun k hk => Nat.blt_eq.mp (q k hk).1, fun i hi => ?_, fun k hk i hi hn he => ?_⟩
  · obtain ⟨k, h1, h2⟩ := List.any_eq_true.mp (q i hi).2.1
    exact ⟨k, List.mem_range.mp h1, Nat.eq_of_beq_eq_true h2⟩
  · have z : (Nat.beq i k || !Nat.beq (p.getD i 0) (p.getD k 0)) = true := List.all_eq_true.mp (q k hk).2.2 i (List.mem_range.mpr hi)
    rw [Bool.or_eq_true] at z
    rcases z with z | z
    · exact hn (Nat.eq_of_beq_eq_true z)
    · rw [he, Nat.beq_refl] at z
      cases z
noncomputable def rm (n : Nat) : Nat → List Nat → Bool
  | 0, _ => false
  | k + 1, p => rq n p && (match nnx n p with
    | none => true
    | some q => rm n k q)
set_option maxRecDepth 100000 in
theorem rm_ok : ∀ n, n < 6 → 2 ≤ n → rm n 120 row0 = true := by decide +kernel
theorem rm_b {n k : Nat} {p : List Nat} (h : rm n (k + 1) p = true) : rq n p = true ∧ ∀ q, nnx n p = some q → rm n k q = true := by
  have h : (rq n p && (match nnx n p with
    | none => true
    | some q => rm n k q)) = true := h
  rw [Bool.and_eq_true] at h
  refine ⟨h.1, fun q hq => ?_⟩
  have h2 := h.2
  rw [hq] at h2
  exact h2
theorem ix72 {g i : Nat} (hg : g < 12) (hi : i < 6) : ((72 + (6 * nI g)) + nI i).toInt.toNat = 72 + 6 * g + i := by
  have eg := nI_toInt (n := g) (by omega)
  have ei := nI_toInt (n := i) (by omega)
  have q := pl_idx (x := nI g) (i := nI i) ⟨by omega, by omega⟩ ⟨by omega, by omega⟩
  omega
theorem ly_2 : ∀ (m : Nat) (y : Int32) (l : List Int32), (km_laysFirsts_2 m y l).length = l.length
  | 0, y, l => by rw [e0_km_laysFirsts_2]
  | m + 1, y, l => by rw [e_km_laysFirsts_2, ly_2 m, List.length_set]
theorem ly_23 {M x1 x2 : Int32} {now : List Int32} : ∀ (m : Nat) (y : Int32) (l : List Int32), (km_laysFirsts_23 M now x1 x2 m y l).length = l.length
  | 0, y, l => by rw [e0_km_laysFirsts_23]
  | m + 1, y, l => by
    rw [e_km_laysFirsts_23]
    split
    · exact ly_23 m _ _
    · split
      · rw [ly_23 m, List.length_set]
      · exact ly_23 m _ _
theorem ly_len {M x1 x2 : Int32} {now l : List Int32} : (km_laysFirsts M now l x1 x2).length = l.length := by
  unfold km_laysFirsts
  rw [ly_23, ly_2]
theorem ro_7l {M : Int32} {now : List Int32} : ∀ (m : Nat) (y1 y2 : Int32) (a b : List Int32), (km_runsOff_7 M now m y1 y2 a b).2.1.length = a.length ∧ (km_runsOff_7 M now m y1 y2 a b).2.2.length = b.length
  | 0, y1, y2, a, b => by rw [e0_km_runsOff_7]; exact ⟨rfl, rfl⟩
  | m + 1, y1, y2, a, b => by
    rw [e_km_runsOff_7]
    obtain ⟨p, q⟩ := ro_7l (M := M) (now := now) m (y1 &&& (((1 : Int32) <<< ((km_runsOff_28 (km_laysFirsts M now a y1 0) y1 M.toInt.toNat (-1) 0) &&& 31)) ^^^ (-1))) (y2 + 1) (km_laysFirsts M now a y1 0) (b.set y2.toInt.toNat (km_runsOff_28 (km_laysFirsts M now a y1 0) y1 M.toInt.toNat (-1) 0))
    rw [ly_len] at p
    rw [List.length_set] at q
    exact ⟨p, q⟩
theorem ro_len {M : Int32} {now a b : List Int32} {f : Nat} : (km_runsOff f M now a b).2.1.length = a.length ∧ (km_runsOff f M now a b).2.2.length = b.length := by
  unfold km_runsOff
  exact ro_7l _ _ _ _ _
theorem cpy66 {f g : List Int32} (hf : f.length = 6) (hg : g.length = 6) : sm_cpy f g 0 0 6 = f := by
  unfold sm_cpy
  rw [List.take_zero, List.drop_zero, List.nil_append, List.take_of_length_le (by omega), List.drop_of_length_le (by omega), List.append_nil]
section LI
variable {Mn g : Nat} {M t : Int32} {bi : List Int32} {l11 : List Int64} {now : List Int32}
/-- all but the places of one guest -/
noncomputable def othr (now now' : List Int32) (g : Nat) : Prop := now'.length = 150 ∧ ∀ q, q < 72 + 6 * g ∨ 72 + 6 * g + 6 ≤ q → now'.getD q 0 = now.getD q 0
theorem ot_vr (h : VC Mn M t bi l11 now) (hg : g < 12) {now' : List Int32} (ho : othr now now' g) : VR Mn M t bi now' := ⟨h.1, h.2.1, by rw [ho.2 144 (by omega)]; exact h.2.2.1, fun q hq => by rw [ho.2 (12 + q) (by omega)]; exact h.2.2.2.1 q hq, h.2.2.2.2.1, trivial⟩
theorem ot_pl (hg : g < 12) {now' : List Int32} (ho : othr now now' g) {q i : Nat} (hq : q ≠ g) (hi : i < 6) : pl now' q i = pl now q i := ho.2 (72 + 6 * q + i) (by omega)
theorem ot_hi (h : VC Mn M t bi l11 now) (hg : g < 12) {now' : List Int32} (ho : othr now now' g) {q : Nat} (hq : q < 12) (hn : q ≠ g) {am : Int32} : km_highestOf M now' (nI q) am = km_highestOf M now (nI q) am := by
  have hM := h.2.1
  exact FV_eq (hi_Fr (ot_vr h hg ho) hq) (hi_FV h hq) (fun i hi => ot_pl hg ho hn (by omega))
/-- places by a row -/
noncomputable def byrow (n : Nat) (p : List Nat) (now' : List Int32) (g : Nat) : Prop := ∀ k, k < n → pl now' g (p.getD k 0) = nI k
theorem fir_c (h : VC Mn M t bi l11 now) {p : List Nat} {l now' : List Int32} (hr : rq Mn p = true) (ha : agr l p Mn) (hb : byrow Mn p now' g) {am : Int32} : FV Mn am (pl now' g) (kv_firstInRow M l am) := by
  have hM := h.2.1
  obtain ⟨r1, r2, r3⟩ := rq_b hr
  have loop : ∀ (m k : Nat), k + m = Mn → (∀ q, q < k → b32 am (p.getD q 0) = false) → FV Mn am (pl now' g) (kv_firstInRow_2 l am m (nI k)) := by
    intro m
    induction m with
    | zero =>
      intro k hk hq
      rw [e0_kv_firstInRow_2]
      refine Or.inl ⟨rfl, fun i hi => ?_⟩
      obtain ⟨q, q1, rfl⟩ := r2 i hi
      exact hq q (by omega)
    | succ m ih =>
      intro k hk hq
      have pk := r1 k (by omega)
      rw [e_kv_firstInRow_2, nJ_ix (n := k) (by omega), nJ_of (ha.2.2 k (by omega)), nJ_1 (n := k) (by omega)]
      by_cases hbk : b32 am (p.getD k 0) = true
      · rw [if_neg (vt1 (by omega) hbk)]
        have later : ∀ q, q < Mn → b32 am (p.getD q 0) = true → k ≤ q := fun q _ h2 => by
          by_cases l : q < k
          · rw [hq q l] at h2
            cases h2
          · omega
        refine Or.inr ⟨p.getD k 0, pk, rfl, hbk, fun j hj hbj => ?_, fun j hj hbj => ?_⟩
        · obtain ⟨q, q1, rfl⟩ := r2 j hj
          have l := later q q1 hbj
          rw [hb k (by omega), hb q q1, nI_toInt (n := k) (by omega), nI_toInt (n := q) (by omega)]
          omega
        · obtain ⟨q, q1, rfl⟩ := r2 j (by omega)
          have l := later q q1 hbj
          have ne : q ≠ k := fun e => by
            rw [e] at hj
            omega
          rw [hb k (by omega), hb q q1, nI_toInt (n := k) (by omega), nI_toInt (n := q) (by omega)]
          omega
      · have hbk := eq_false_of_ne_true hbk
        rw [if_pos (vt0 (by omega) hbk)]
        refine ih (k + 1) (by omega) (fun q hq' => ?_)
        by_cases e : q = k
        · rw [e]
          exact hbk
        · exact hq q (by omega)
  unfold kv_firstInRow
  rw [vc_tn h]
  exact loop Mn 0 (by omega) (fun q hq => by omega)
theorem lay_89 (h : VC Mn M t bi l11 now) (hg : g < 12) {p : List Nat} {l : List Int32} (hr : rq Mn p = true) (ha : agr l p Mn) : ∀ (m k : Nat) (a : List Int32), k + m = Mn → othr now a g → (∀ q, q < k → pl a g (p.getD q 0) = nI q) → othr now (km_lie_89 l (nI g) m (nI k) a) g ∧ byrow Mn p (km_lie_89 l (nI g) m (nI k) a) g := by
  have hM := h.2.1
  obtain ⟨r1, r2, r3⟩ := rq_b hr
  intro m
  induction m with
  | zero =>
    intro k a hk ho hq
    rw [e0_km_lie_89]
    exact ⟨ho, fun q hq' => hq q (by omega)⟩
  | succ m ih =>
    intro k a hk ho hq
    have pk := r1 k (by omega)
    have la := ho.1
    rw [e_km_lie_89, nJ_ix (n := k) (by omega), nJ_of (ha.2.2 k (by omega)), ix72 hg (show p.getD k 0 < 6 by omega), nJ_1 (n := k) (by omega)]
    refine ih (k + 1) _ (by omega) ⟨by rw [List.length_set]; exact la, fun q hq' => ?_⟩ (fun q hq' => ?_)
    · rw [gd_set (by omega), if_neg (by omega)]
      exact ho.2 q hq'
    · have pq := r1 q (by omega)
      show (a.set (72 + 6 * g + p.getD k 0) (nI k)).getD (72 + 6 * g + p.getD q 0) 0 = nI q
      rw [gd_set (by omega)]
      by_cases e : q = k
      · rw [e, if_pos rfl]
      · rw [if_neg (fun z => r3 k (by omega) q (by omega) e (by omega))]
        exact hq q (by omega)
/-- the tallies without one guest -/
noncomputable def TA (Mn g : Nat) (M t : Int32) (bi now a35 : List Int32) (n : Nat) : Prop := a35.length = 384 ∧ ∀ a, 1 ≤ a → a < n → ∀ i, i < 6 → a35.getD (6 * a + i) 0 = vF t bi (fun q => km_highestOf M now (nI q) (nI a)) (fun q => decide (nI q = nI g)) i
theorem ne_64 : ∀ n, n < 7 → ∀ b, b < 2 ^ n → 1 ≤ b → 0 < cnt n (b32 (nI b)) := by decide +kernel
theorem pw_64 : ∀ n, n < 7 → 2 ^ n ≤ 64 := by decide
theorem ta_29 (h : VC Mn M t bi l11 now) : ∀ (m b : Nat) (a35 : List Int32), b + m = 2 ^ Mn → 1 ≤ b → TA Mn g M t bi now a35 b → TA Mn g M t bi now (kv_countLies_29 M t bi l11 (nI g) m (nI b) a35) (2 ^ Mn) := by
  have hM := h.2.1
  have p64 := pw_64 Mn (by omega)
  intro m
  induction m with
  | zero =>
    intro b a35 hb h1 ht
    rw [e0_kv_countLies_29]
    rw [show b = 2 ^ Mn by omega] at ht
    exact ht
  | succ m ih =>
    intro b a35 hb h1 ht
    have hne := cnt_p (f := b32 (nI b)) Mn (ne_64 Mn (by omega) b (by omega) h1)
    obtain ⟨t1, t2⟩ := tally_c h ht.1 (show b < 64 by omega) (am := nI b) rfl hne (w := nI g)
    rw [e_kv_countLies_29, nJ_1 (n := b) (by omega)]
    refine ih (b + 1) _ (by omega) (by omega) ⟨t1, fun a a1 a2 i hi => ?_⟩
    rw [t2 _ (by omega)]
    by_cases e : a = b
    · subst e
      rw [if_pos (by omega), show 6 * a + i - 6 * a = i by omega]
    · rw [if_neg (by omega)]
      exact ht.2 a a1 (by omega) i hi
/-- a round of the run off with a lie -/
theorem li_go (h : VC Mn M t bi l11 now) (hg : g < 12) (bg : b32 t g = true) {p : List Nat} {l now' a35 a87 : List Int32} (hr : rq Mn p = true) (ha : agr l p Mn) (ho : othr now now' g) (hb : byrow Mn p now' g) (ht : TA Mn g M t bi now a35 (2 ^ Mn)) (h87 : a87.length = 6) {am : Int32} (hs : ∀ i, Mn ≤ i → i < 32 → b32 am i = false) (hne : ∃ i, i < Mn ∧ b32 am i = true) : ∃ c, c < Mn ∧ b32 am c = true ∧ kv_goesOut M a35 am (kv_firstInRow M l am) (bi.getD g 0) = nI c ∧ km_runsOff_28 (km_laysFirsts M now' a87 am 0) am Mn (-1) 0 = nI c := by
  have hM := h.2.1
  have v' := ot_vr h hg ho
  obtain ⟨a, ha64, hA⟩ := small64 (x := am) (fun k h1 h2 => hs k (by omega) h2)
  have hX : (am * 6).toInt = ((6 * a : Nat) : Int) := by
    rw [hA]
    exact (by decide +kernel : ∀ a, a < 64 → (nI a * 6).toInt = ((6 * a : Nat) : Int)) a ha64
  have a1 : 1 ≤ a ∧ a < 2 ^ Mn := by
    refine ⟨?_, ?_⟩
    · by_cases z : a = 0
      · obtain ⟨i, -, i2⟩ := hne
        rw [hA, z] at i2
        have z2 : b32 (0 : Int32) i = true := i2
        rw [b32_0] at z2
        cases z2
      · omega
    · refine (by decide +kernel : ∀ n, n < 7 → ∀ a, a < 64 → (∀ i, i < 32 → n ≤ i → b32 (nI a) i = false) → a < 2 ^ n) Mn (by omega) a ha64 (fun i h1 h2 => ?_)
      rw [← hA]
      exact hs i h2 h1
  obtain ⟨d1, d2⟩ := lays_r v' h87 hne (w := 0)
  have hF : km_highestOf M now' (nI g) am = kv_firstInRow M l am := FV_eq (hi_Fr v' hg) (fir_c h hr ha hb) (fun _ _ => rfl)
  refine go_lock h.2.1 h.1 hX ha64 (fun i hi hbi => ?_) (fun i hi hbi => ?_) hne
  · rw [ht.2 a a1.1 a1.2 i (by omega), d2 i (by omega), ← hF, ← hA]
    unfold vF
    have e0 : vG t bi (fun q => km_highestOf M now (nI q) am) (fun q => decide (nI q = nI g)) i g = 0 := if_neg (fun z => by
      have z2 : decide (nI g = nI g) = false := z.2.1
      rw [decide_eq_true rfl] at z2
      cases z2)
    have e1 : vG t bi (fun q => km_highestOf M now' (nI q) am) (fun q => b32 0 q) i g = (if nI i = km_highestOf M now' (nI g) am then bi.getD g 0 else 0) := by
      show (if b32 t g = true ∧ b32 0 g = false ∧ km_highestOf M now' (nI g) am = nI i then bi.getD g 0 else 0) = _
      by_cases c : nI i = km_highestOf M now' (nI g) am
      · rw [if_pos c, if_pos ⟨bg, b32_0 g, c.symm⟩]
      · rw [if_neg c, if_neg (fun z => c z.2.2.symm)]
    have q := sg_but e0 e1 12 (fun q hq hn => by
      show (if b32 t q = true ∧ decide (nI q = nI g) = false ∧ km_highestOf M now (nI q) am = nI i then bi.getD q 0 else 0) = (if b32 t q = true ∧ b32 0 q = false ∧ km_highestOf M now' (nI q) am = nI i then bi.getD q 0 else 0)
      rw [ot_hi h hg ho hq hn, decide_eq_false (show ¬ nI q = nI g from fun z => hn (nJ_inj (by omega) (by omega) z)), b32_0])
    rw [if_pos hg] at q
    exact q
  · rw [d2 i (by omega)]
    exact (vF_br v').2
theorem li_lock (h : VC Mn M t bi l11 now) (hg : g < 12) (bg : b32 t g = true) {p : List Nat} {l now' a35 : List Int32} (hr : rq Mn p = true) (ha : agr l p Mn) (ho : othr now now' g) (hb : byrow Mn p now' g) (ht : TA Mn g M t bi now a35 (2 ^ Mn)) : ∀ (m k : Nat) (am y3 y4 : Int32) (a87 a89 : List Int32), k + m = Mn - 1 → (∀ i, Mn ≤ i → i < 32 → b32 am i = false) → cnt Mn (b32 am) = Mn - k → a87.length = 6 → ∃ c, c < Mn ∧ kv_lastLeft_13 M a35 l (bi.getD g 0) (m + 1) am y3 y4 = nI c ∧ b32 (km_runsOff_7 M now' m am (nI k) a87 a89).1 c = true ∧ ∀ j, j < Mn → j ≠ c → b32 (km_runsOff_7 M now' m am (nI k) a87 a89).1 j = false := by
  have hM := h.2.1
  intro m
  induction m with
  | zero =>
    intro k am y3 y4 a87 a89 hk hs hc h87
    have hne := cnt_p (f := b32 am) Mn (by omega)
    obtain ⟨c, c1, c2, c3, -⟩ := li_go h hg bg hr ha ho hb ht h87 hs hne
    rw [e_kv_lastLeft_13, e0_kv_lastLeft_13, e0_km_runsOff_7, c3]
    refine ⟨c, c1, rfl, c2, fun j hj hn => ?_⟩
    have e := cnt_1 (f := fun k => b32 am k && !decide (k = c)) (g := b32 am) (k := c) Mn c1 (by rw [decide_eq_true rfl]; simp) c2 (fun i _ hn => by rw [decide_eq_false hn]; simp)
    have z := cnt_z (f := fun k => b32 am k && !decide (k = c)) Mn (by omega) j hj
    rw [decide_eq_false hn] at z
    show b32 am j = false
    simpa using z
  | succ m ih =>
    intro k am y3 y4 a87 a89 hk hs hc h87
    have hne := cnt_p (f := b32 am) Mn (by omega)
    obtain ⟨c, c1, c2, c3, c4⟩ := li_go h hg bg hr ha ho hb ht h87 hs hne
    rw [e_kv_lastLeft_13, e_km_runsOff_7, vc_tn h, c3, c4, nJ_1 (n := k) (by omega)]
    refine ih (k + 1) _ _ _ _ _ (by omega) (fun i h1 h2 => ?_) ?_ (ly_len.trans h87)
    · rw [b32_less (by omega) h2, hs i h1 h2]
      rfl
    · have e := cnt_1 (f := b32 (am &&& (((1 : Int32) <<< (nI c &&& 31)) ^^^ (-1)))) (g := b32 am) (k := c) Mn c1 (by rw [b32_less (by omega) (by omega), decide_eq_true rfl]; simp) c2 (fun i hi hn => by rw [b32_less (by omega) (by omega), decide_eq_false hn]; simp)
      omega
theorem li_last (h : VC Mn M t bi l11 now) (hg : g < 12) (bg : b32 t g = true) {p : List Nat} {l now' a35 a87 a89 : List Int32} (hr : rq Mn p = true) (ha : agr l p Mn) (ho : othr now now' g) (hb : byrow Mn p now' g) (ht : TA Mn g M t bi now a35 (2 ^ Mn)) (h87 : a87.length = 6) {f : Nat} (hf : 12 ≤ f) : ∃ c, c < Mn ∧ kv_lastLeft M a35 l (bi.getD g 0) = nI c ∧ (km_runsOff f M now' a87 a89).1 = nI c := by
  have hM := h.2.1
  obtain ⟨eA, eB, eC⟩ := all_b h
  have e1 : (M - 1).toInt.toNat = Mn - 1 := by
    rw [nJ_of h.1]
    exact (by decide +kernel : ∀ n, n < 7 → 2 ≤ n → (nI n - 1).toInt.toNat = n - 1) Mn (by omega) hM.1
  obtain ⟨c, c1, c2, c3, c4⟩ := li_lock h hg bg hr ha ho hb ht (Mn - 1) 0 (nI (2 ^ Mn - 1)) 0 0 a87 a89 (by omega) (fun i h1 h2 => by rw [eC i h2]; exact decide_eq_false (by omega)) (by rw [cnt_all h]; rfl) h87
  rw [show Mn - 1 + 1 = Mn by omega] at c2
  unfold kv_lastLeft km_runsOff
  rw [vc_tn h, eA, eB, e1]
  exact ⟨c, c1, c2, ro_99 (c := c) (by omega) c3 (fun j hj => c4 j (by omega) (by omega)) f 0 (by omega) (by omega)⟩
theorem li_81 (h : VC Mn M t bi l11 now) (hg : g < 12) (bg : b32 t g = true) {w : Nat} (hw : w < Mn) {a35 a94 : List Int32} (ht : TA Mn g M t bi now a35 (2 ^ Mn)) (h94 : ∀ i, i < 6 → a94.getD i 0 = pl now g i) {f : Nat} (hf : 12 ≤ f) : ∀ (k m1 m2 : Nat) (y y4 : Int32) (p : List Nat) (l a39 a68 a87 a89 a92 a93 : List Int32), rm Mn k p = true → k ≤ m1 → k < m2 → agr l p Mn → agr a92 p Mn → othr now a68 g → a87.length = 6 → a39.length = 6 → a93.length = 6 → (y = 0 ∨ ∀ q, q < Mn → a39.getD q 0 = a93.getD q 0) → (kv_countLies_78 f M bi a35 (nI g) (kt_aheadOf l11 (nI g) (nI w)) m1 y y4 l a39).1 = (km_lie_81 f M a94 (nI g) (nI w) m2 y 1 a68 a87 a89 a92 a93).1 ∧ ((kv_countLies_78 f M bi a35 (nI g) (kt_aheadOf l11 (nI g) (nI w)) m1 y y4 l a39).1 = 0 ∨ ∀ q, q < Mn → (kv_countLies_78 f M bi a35 (nI g) (kt_aheadOf l11 (nI g) (nI w)) m1 y y4 l a39).2.2.getD q 0 = (km_lie_81 f M a94 (nI g) (nI w) m2 y 1 a68 a87 a89 a92 a93).2.2.2.2.2.getD q 0) := by
  have hM := h.2.1
  have eM : M = nI Mn := nJ_of h.1
  intro k
  induction k with
  | zero =>
    intro m1 m2 y y4 p l a39 a68 a87 a89 a92 a93 hr
    cases hr
  | succ k ih =>
    intro m1 m2 y y4 p l a39 a68 a87 a89 a92 a93 hr hm1 hm2 ha hb ho h87 h39 h93 hag
    obtain ⟨m1, rfl⟩ : ∃ m, m1 = m + 1 := ⟨m1 - 1, by omega⟩
    obtain ⟨m2, rfl⟩ : ∃ m, m2 = m + 1 := ⟨m2 - 1, by omega⟩
    obtain ⟨r1, r2⟩ := rm_b hr
    obtain ⟨o1, o2⟩ := lay_89 h hg r1 hb Mn 0 a68 (by omega) ho (fun q hq => by omega)
    have o1 : othr now (km_lie_89 a92 (nI g) Mn 0 a68) g := o1
    have o2 : byrow Mn p (km_lie_89 a92 (nI g) Mn 0 a68) g := o2
    obtain ⟨c, c1, c2, c3⟩ := li_last h hg bg r1 ha o1 o2 ht h87 (a89 := a89) hf
    have l87 : (km_runsOff f M (km_lie_89 a92 (nI g) Mn 0 a68) a87 a89).2.1.length = 6 := ro_len.1.trans h87
    obtain ⟨g0, g1⟩ := gm_x (f := f) (M := M) hM eM (by omega) hb
    obtain ⟨v0, v1⟩ := gv_x (f := f) (M := M) hM eM (by omega) ha
    have stop : ∀ (y : Int32) (b68 b87 b89 b92 b93 : List Int32), km_lie_81 f M a94 (nI g) (nI w) m2 y 0 b68 b87 b89 b92 b93 = (y, b68, b87, b89, b92, b93) := fun y b68 b87 b89 b92 b93 => by
      obtain ⟨m', rfl⟩ : ∃ m', m2 = m' + 1 := ⟨m2 - 1, by omega⟩
      rw [e_km_lie_81, if_pos rfl]
    have rest : ∀ (y : Int32) (a39 a93 : List Int32), a39.length = 6 → a93.length = 6 → (y = 0 ∨ ∀ q, q < Mn → a39.getD q 0 = a93.getD q 0) → ∀ (R : Int32 × List Int32 × List Int32) (S : Int32 × List Int32 × List Int32 × List Int32 × List Int32 × List Int32), R = (if (kv_nextRow f M l).1 = 0 then (y, (kv_nextRow f M l).2, a39) else kv_countLies_78 f M bi a35 (nI g) (kt_aheadOf l11 (nI g) (nI w)) m1 y (y4 + 1) (kv_nextRow f M l).2 a39) → S = km_lie_81 f M a94 (nI g) (nI w) m2 y (km_goesNext f a92 M).1 (km_lie_89 a92 (nI g) Mn 0 a68) (km_runsOff f M (km_lie_89 a92 (nI g) Mn 0 a68) a87 a89).2.1 (km_runsOff f M (km_lie_89 a92 (nI g) Mn 0 a68) a87 a89).2.2 (km_goesNext f a92 M).2 a93 → R.1 = S.1 ∧ (R.1 = 0 ∨ ∀ q, q < Mn → R.2.2.getD q 0 = S.2.2.2.2.2.getD q 0) := fun y a39 a93 h39 h93 hag R S eR eS => by
      rw [eR, eS]
      cases e : nnx Mn p with
      | none =>
        rw [(v0 e).1, (g0 e).1, if_pos rfl, stop]
        exact ⟨rfl, hag⟩
      | some p' =>
        obtain ⟨z1, z2⟩ := g1 p' e
        obtain ⟨x1, x2⟩ := v1 p' e
        rw [x1, z1, if_neg (show ¬ (1 : Int32) = 0 by decide)]
        exact ih m1 m2 y (y4 + 1) p' _ a39 _ _ _ _ a93 (r2 p' e) (by omega) (by omega) x2 z2 o1 l87 h39 h93 hag
    have hah := vc_ah h hg c1 hw
    have e94 : (a94.getD c 0).toInt < (a94.getD w 0).toInt ↔ (pl now g c).toInt < (pl now g w).toInt := by rw [h94 c (by omega), h94 w (by omega)]
    rw [e_kv_countLies_78, e_km_lie_81, if_neg (show ¬ (1 : Int32) = 0 by decide), nJ_ix (n := g) (by omega), c2, vc_tn h, c3, nJ_ix (n := c) (by omega), nJ_ix (n := w) (by omega)]
    by_cases d : (pl now g c).toInt < (pl now g w).toInt
    · rw [if_neg (vt1 (by omega) (hah.trans (decide_eq_true d))), if_pos (e94.mpr d)]
      by_cases y0 : y = 0
      · rw [if_pos y0, if_pos y0]
        have ka := keeps_m (a := a92) (b := a93) h h93
        refine rest (y + 1) (sm_cpy l a39 0 0 6) (km_keepsRow M a92 a93) (by rw [cpy66 ha.1 h39]; exact ha.1) ka.1 (Or.inr (fun q hq => ?_)) _ _ rfl rfl
        rw [cpy66 ha.1 h39, ka.2 q hq, nJ_of (ha.2.2 q hq), nJ_of (hb.2.2 q hq)]
      · rw [if_neg y0, if_neg y0]
        refine rest (y + 1) a39 a93 h39 h93 (Or.inr ?_) _ _ rfl rfl
        rcases hag with z | z
        · exact absurd z y0
        · exact z
    · rw [if_pos (vt0 (by omega) (hah.trans (decide_eq_false d))), if_neg (fun z => d (e94.mp z))]
      exact rest y a39 a93 h39 h93 hag _ _ rfl rfl
theorem own_44 (h : VC Mn M t bi l11 now) (hg : g < 12) : ∀ (m i : Nat) (a : List Int32), i + m = 6 → a.length = 6 → (∀ q, q < i → a.getD q 0 = pl now g q) → ∀ q, q < 6 → (km_lie_44 now (nI g) m (nI i) a).getD q 0 = pl now g q := by
  intro m
  induction m with
  | zero =>
    intro i a hi hl hq
    rw [e0_km_lie_44]
    rw [show i = 6 by omega] at hq
    exact hq
  | succ m ih =>
    intro i a hi hl hq
    rw [e_km_lie_44, nJ_ix (n := i) (by omega), nJ_1 (n := i) (by omega), vc_pl hg (show i < 6 by omega)]
    refine ih (i + 1) _ (by omega) (by rw [List.length_set]; exact hl) (fun q hq' => ?_)
    rw [gd_set (by omega)]
    by_cases e : q = i
    · rw [if_pos e, e]
    · rw [if_neg e]
      exact hq q (by omega)
theorem row_54 : ∀ (m i : Nat) (a : List Int32), i + m = 6 → a.length = 6 → (∀ q, q < i → a.getD q 0 = nI q) → (kv_countLies_54 m (nI i) a).length = 6 ∧ ∀ q, q < 6 → (kv_countLies_54 m (nI i) a).getD q 0 = nI q := by
  intro m
  induction m with
  | zero =>
    intro i a hi hl hq
    rw [e0_kv_countLies_54]
    rw [show i = 6 by omega] at hq
    exact ⟨hl, hq⟩
  | succ m ih =>
    intro i a hi hl hq
    rw [e_kv_countLies_54, nJ_ix (n := i) (by omega), nJ_1 (n := i) (by omega)]
    refine ih (i + 1) _ (by omega) (by rw [List.length_set]; exact hl) (fun q hq' => ?_)
    rw [gd_set (by omega)]
    by_cases e : q = i
    · rw [if_pos e, e]
    · rw [if_neg e]
      exact hq q (by omega)
theorem cro_len (h : VC Mn M t bi l11 now) : ∀ (m : Nat) (y1 y2 : Int32) (a b : List Int32), (kv_countRunOff_10 M t bi l11 m y1 y2 a b).1.length = a.length
  | 0, y1, y2, a, b => by rw [e0_kv_countRunOff_10]
  | m + 1, y1, y2, a, b => by
    have l8 : ∀ (m : Nat) (x y : Int32) (l : List Int32), (kv_tallyFirsts_8 x m y l).length = l.length := by
      intro m
      induction m with
      | zero => intro x y l; rw [e0_kv_tallyFirsts_8]
      | succ m ih => intro x y l; rw [e_kv_tallyFirsts_8, ih, List.length_set]
    have l34 : ∀ (m : Nat) (x z y u : Int32) (l : List Int32), (kv_tallyFirsts_34 M t bi l11 x z u m y l).length = l.length := by
      intro m
      induction m with
      | zero => intro x z y u l; rw [e0_kv_tallyFirsts_34]
      | succ m ih =>
        intro x z y u l
        rw [e_kv_tallyFirsts_34]
        split
        · exact ih _ _ _ _ _
        · split
          · exact ih _ _ _ _ _
          · split
            · exact ih _ _ _ _ _
            · rw [ih, List.length_set]
    rw [e_kv_countRunOff_10, cro_len h m]
    unfold kv_tallyFirsts
    rw [l34, l8]
theorem lie_pure (h : VC Mn M t bi l11 now) {a35 a36 a38 a39 a87 a89 a92 a93 a94 : List Int32} (hn : now.length = 150) (h35 : a35.length = 384) (h36 : a36.length = 6) (h38 : a38.length = 6) (h39 : a39.length = 6) (h87 : a87.length = 6) (h89 : a89.length = 6) (h92 : a92.length = 6) (h93 : a93.length = 6) (h94 : a94.length = 6) {f : Nat} (hf : 200 ≤ f) {x y : Int32} : (kc_lie f M t bi a35 a36 a38 a39 l11 x y).1 = (km_lie f M now a87 a89 a92 a93 a94 x y).1 := by
  have hM := h.2.1
  have eM : M = nI Mn := nJ_of h.1
  unfold kc_lie km_lie
  rw [told_same h.2.2.1 x]
  by_cases tx : km_isGuest now x = 0
  · rw [if_pos tx, if_pos tx]
  · rw [if_neg tx, if_neg tx]
    obtain ⟨g, hg, rfl, bg⟩ : ∃ g : Nat, g < 12 ∧ x = nI g ∧ b32 t g = true := by
      rcases kt_told t x with ⟨a, -⟩ | ⟨-, a⟩
      · rw [told_same h.2.2.1 x] at a
        exact absurd a tx
      · have a1 := a.1
        exact ⟨x.toInt.toNat, by omega, nJ_of (by omega), a.2⟩
    have main : ¬ M = 6 → (kv_countLies f M t bi a35 a36 a38 a39 l11 (nI g)).1 = (km_lie_81 f M (km_lie_44 now (nI g) 6 0 a94) (nI g) (km_runsOff f M now a87 a89).1 f 0 1 now (km_runsOff f M now a87 a89).2.1 (km_runsOff f M now a87 a89).2.2 (km_beginsRows M a92) a93).1 ∧ ((kv_countLies f M t bi a35 a36 a38 a39 l11 (nI g)).1 = 0 ∨ ∀ q, q < Mn → (kv_countLies f M t bi a35 a36 a38 a39 l11 (nI g)).2.2.2.2.getD q 0 = (km_lie_81 f M (km_lie_44 now (nI g) 6 0 a94) (nI g) (km_runsOff f M now a87 a89).1 f 0 1 now (km_runsOff f M now a87 a89).2.1 (km_runsOff f M now a87 a89).2.2 (km_beginsRows M a92) a93).2.2.2.2.2.getD q 0) := fun m6 => by
      have M6 : Mn < 6 := by
        by_cases e : Mn = 6
        · rw [e] at eM
          exact absurd eM m6
        · omega
      obtain ⟨-, w, w1, w2, w3⟩ := ro_both h h35 h36 h87 h89 (f := f) (by omega)
      obtain ⟨eA, -, -⟩ := all_b h
      have p1 := (by decide +kernel : ∀ n, n < 7 → 2 ≤ n → (nI n - 1).toInt.toNat = n - 1 ∧ ((nI (2 ^ n - 1)).toInt + 1 - 1).toNat = 2 ^ n - 1 ∧ 4 ≤ 2 ^ n) Mn (by omega) hM.1
      have p2 : (M - 1).toInt.toNat = Mn - 1 := by
        rw [eM]
        exact p1.1
      have l35 : (kv_countRunOff M t bi a35 a36 l11).1.length = 384 := by
        unfold kv_countRunOff
        exact (cro_len h _ _ _ _ _).trans h35
      have ta := ta_29 (g := g) h (2 ^ Mn - 1) 1 (kv_countRunOff M t bi a35 a36 l11).1 (by omega) (by omega) ⟨l35, fun a a1 a2 => by omega⟩
      obtain ⟨b1, b2⟩ := row_54 6 0 a38 rfl h38 (fun q hq => by omega)
      have ag : agr (kv_countLies_54 6 0 a38) row0 Mn := ⟨b1, rfl, fun q hq => by
        have b2 : (kv_countLies_54 6 0 a38).getD q 0 = nI q := b2 q (by omega)
        rw [b2, nI_toInt (by omega), row0_gd q (by omega)]⟩
      have q := li_81 h hg bg w1 ta (own_44 h hg 6 0 a94 rfl h94 (fun q hq => by omega)) (f := f) (by omega) 120 120 f 0 0 row0 _ a39 now _ (km_runsOff f M now a87 a89).2.2 _ a93 (rm_ok Mn M6 hM.1) (by omega) (by omega) ag (begins_m h h92) ⟨hn, fun _ _ => rfl⟩ ((ro_len (f := f) (M := M) (now := now) (a := a87) (b := a89)).1.trans h87) h39 h93 (Or.inl rfl)
      unfold kv_countLies
      rw [p2, w2, w3, eA, p1.2.1]
      exact q
    by_cases y10 : y = 10
    · rw [if_pos y10, if_pos y10]
      by_cases m6 : M = 6
      · rw [if_pos m6, if_pos m6]
      · rw [if_neg m6, if_neg m6]
        exact (main m6).1
    · rw [if_neg y10, if_neg y10]
      rcases vc_isM h y with ⟨a, b⟩ | ⟨a, b, j, rfl, hj⟩
      · rw [if_pos a, if_pos b]
      · rw [if_neg a, if_neg b]
        by_cases m6 : M = 6
        · rw [if_pos m6, if_pos m6]
        · rw [if_neg m6, if_neg m6]
          obtain ⟨k1, k2⟩ := main m6
          rw [← k1]
          by_cases z : (kv_countLies f M t bi a35 a36 a38 a39 l11 (nI g)).1 = 0
          · rw [if_pos z, if_pos z]
          · rw [if_neg z, if_neg z]
            rcases k2 with k2 | k2
            · exact absurd k2 z
            · show (kv_countLies f M t bi a35 a36 a38 a39 l11 (nI g)).2.2.2.2.getD (nI j).toInt.toNat 0 = _
              rw [nJ_ix (n := j) (by omega)]
              exact k2 j hj
end LI
section ANLI
variable {as : List Int32} {hp hp1 hp2 : sm_H} {r1 r2 : Int32}
theorem an_lie (hl : as.length = 2) (hI : ivH IV hp) (hR : R123 hp) (m1 : EM 400 114 (.ref 0 :: as.map Value.int) hp (some (.int r1)) hp1) (hI1 : ivH IV hp1) (m2 : EM 400 234 (.ref 67 :: as.map Value.int) hp1 (some (.int r2)) hp2) : r1 = r2 := by
  obtain ⟨x, y, rfl⟩ := ln2 hl
  have hV := vc_of hI hR.1.1 hR.2
  have hV6 := hV.2.1
  have p64 := pw64 (mN hp) (by omega)
  obtain ⟨N1, e1⟩ := u_kc_lie hI (by
    rw [(all_b hV).1, nI_toInt (by omega)]
    omega) m1
  obtain ⟨N2, e2⟩ := u_km_lie hI1 m2
  obtain ⟨e1, h1⟩ := e1 (N1 + N2 + 200) (by omega)
  obtain ⟨e2, -⟩ := e2 (N1 + N2 + 200) (by omega)
  have w : exA hp1 68 = exA hp 68 := by rw [h1]; rfl
  have w3 : exF hp1 67 3 = exF hp 3 0 := by rw [hR.1.1.1.1, h1]; rfl
  rw [e1, e2, w, w3]
  exact lie_pure hV (iv_len (k := 68) hI rfl (by decide)) (iv_len (k := 35) hI rfl (by decide)) (iv_len (k := 36) hI rfl (by decide)) (iv_len (k := 38) hI rfl (by decide)) (iv_len (k := 39) hI rfl (by decide)) (iv_len (k := 87) hI1 rfl (by decide)) (iv_len (k := 89) hI1 rfl (by decide)) (iv_len (k := 92) hI1 rfl (by decide)) (iv_len (k := 93) hI1 rfl (by decide)) (iv_len (k := 94) hI1 rfl (by decide)) (by omega)
end ANLI
