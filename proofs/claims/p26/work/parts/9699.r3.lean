/-! rankings on both sides -/
noncomputable def b64 (t : Int64) (g : Nat) : Bool := t.toBitVec.getLsbD g
theorem b64_ext {x y : Int64} (h : ∀ g, g < 64 → b64 x g = b64 y g) : x = y := Int64.toBitVec_inj.mp (BitVec.eq_of_getLsbD_eq h)
theorem b64_or (x y : Int64) (g : Nat) : b64 (x ||| y) g = (b64 x g || b64 y g) := by
  unfold b64
  rw [Int64.toBitVec_or, BitVec.getLsbD_or]
theorem b64_0 (g : Nat) : b64 0 g = false := by
  by_cases h : g < 64
  · exact (by decide +kernel : ∀ g, g < 64 → b64 0 g = false) g h
  · exact BitVec.getLsbD_of_ge _ _ (by omega)
/-- how many -/
noncomputable def cnt : Nat → (Nat → Bool) → Nat
  | 0, _ => 0
  | n + 1, f => cnt n f + (if f n = true then 1 else 0)
theorem cnt_congr {f g : Nat → Bool} : ∀ (n : Nat), (∀ i, i < n → f i = g i) → cnt n f = cnt n g
  | 0, _ => rfl
  | n + 1, h => by
    show cnt n f + (if f n = true then 1 else 0) = cnt n g + (if g n = true then 1 else 0)
    rw [cnt_congr n (fun i hi => h i (by omega)), h n (by omega)]
theorem cnt_0 : ∀ (n : Nat), cnt n (fun _ => false) = 0
  | 0 => rfl
  | n + 1 => by
    show cnt n (fun _ => false) + (if (false : Bool) = true then 1 else 0) = 0
    rw [cnt_0 n]
    rfl
theorem cnt_n {f : Nat → Bool} : ∀ (n : Nat), cnt n f ≤ n
  | 0 => Nat.le_refl _
  | n + 1 => by
    show cnt n f + (if f n = true then 1 else 0) ≤ n + 1
    have := cnt_n (f := f) n
    split <;> omega
theorem cnt_le {f g : Nat → Bool} : ∀ (n : Nat), (∀ i, i < n → f i = true → g i = true) → cnt n f ≤ cnt n g
  | 0, _ => Nat.le_refl _
  | n + 1, h => by
    show cnt n f + (if f n = true then 1 else 0) ≤ cnt n g + (if g n = true then 1 else 0)
    have h1 := cnt_le n (fun i hi => h i (by omega))
    have h2 := h n (by omega)
    by_cases e : f n = true
    · rw [if_pos e, if_pos (h2 e)]; omega
    · rw [if_neg e]; split <;> omega
theorem cnt_lt {f g : Nat → Bool} {k : Nat} : ∀ (n : Nat), (∀ i, i < n → f i = true → g i = true) → k < n → f k = false → g k = true → cnt n f < cnt n g
  | n + 1, h, hk, hf, hg => by
    show cnt n f + (if f n = true then 1 else 0) < cnt n g + (if g n = true then 1 else 0)
    have h2 := h n (by omega)
    by_cases e : k = n
    · subst e
      have h1 := cnt_le k (fun i hi => h i (by omega))
      rw [hf, hg, if_neg (by decide), if_pos rfl]
      omega
    · have h1 := cnt_lt n (fun i hi => h i (by omega)) (by omega) hf hg
      by_cases e : f n = true
      · rw [if_pos e, if_pos (h2 e)]; omega
      · rw [if_neg e]; split <;> omega
theorem cnt_1 {f g : Nat → Bool} {k : Nat} : ∀ (n : Nat), k < n → f k = false → g k = true → (∀ i, i < n → i ≠ k → f i = g i) → cnt n g = cnt n f + 1
  | n + 1, hk, hf, hg, h => by
    show cnt n g + (if g n = true then 1 else 0) = cnt n f + (if f n = true then 1 else 0) + 1
    by_cases e : k = n
    · subst e
      rw [hf, hg, if_pos rfl, if_neg (by decide), cnt_congr k (fun i hi => (h i (by omega) (by omega)).symm)]
    · rw [cnt_1 n (by omega) hf hg (fun i hi hn => h i (by omega) hn), h n (by omega) (by omega)]
      omega
/-- one guest's ranking: bits on one side, places on the other -/
noncomputable def R3g (M : Nat) (o : Int64) (p : Nat → Int32) : Prop := (∀ i, i < 6 → ∀ j, j < 6 → b64 o (6 * i + j) = decide (i < M ∧ j < M ∧ (p j).toInt < (p i).toInt)) ∧ (∀ k, 36 ≤ k → b64 o k = false) ∧ (∀ i, i < M → (p i).toInt = ((cnt M (fun j => decide ((p j).toInt < (p i).toInt)) : Nat) : Int)) ∧ (∀ i, M ≤ i → i < 6 → p i = 0)
noncomputable def pl (now : List Int32) (g i : Nat) : Int32 := now.getD (72 + 6 * g + i) 0
noncomputable def R3v (M : Nat) (ov : List Int64) (now : List Int32) : Prop := ∀ g, g < 12 → R3g M (ov.getD g 0) (pl now g)
noncomputable def mN (hp : sm_H) : Nat := (exF hp 67 3).toInt.toNat
noncomputable def R3 (hp : sm_H) : Prop := R3v (mN hp) (exL hp 11) (exA hp 68) ∧ (exF hp 0 11 = 1 → R3v (mN hp) (exL hp 20) (exA hp 70))
theorem R3g_c {M : Nat} {o : Int64} {p p' : Nat → Int32} (hM : M ≤ 6) (h : ∀ i, i < 6 → p' i = p i) (r : R3g M o p) : R3g M o p' := by
  obtain ⟨a, b, c, d⟩ := r
  refine ⟨fun i hi j hj => by rw [h i hi, h j hj]; exact a i hi j hj, b, fun i hi => ?_, fun i h1 h2 => by rw [h i h2]; exact d i h1 h2⟩
  refine (congrArg Int32.toInt (h i (by omega))).trans ((c i hi).trans (congrArg _ (cnt_congr M (fun j hj => ?_))))
  show decide ((p j).toInt < (p i).toInt) = decide ((p' j).toInt < (p' i).toInt)
  rw [h j (by omega), h i (by omega)]
theorem R3g_0 {M : Nat} {p : Nat → Int32} (hM : M ≤ 6) (h : ∀ i, i < 6 → p i = 0) : R3g M 0 p := by
  have e0 : (0 : Int32).toInt = 0 := rfl
  refine ⟨fun i hi j hj => ?_, fun k _ => b64_0 k, fun i hi => ?_, fun i _ h2 => h i h2⟩
  · rw [b64_0, h i hi, h j hj, e0]
    exact (decide_eq_false (fun z => by omega)).symm
  · rw [h i (by omega), cnt_congr M (g := fun _ => false) (fun j hj => by rw [h j (by omega)]; rfl), cnt_0]
    rfl
theorem R3v_c {M : Nat} {ov : List Int64} {now now' : List Int32} (hM : M ≤ 6) (h : ∀ i, 72 ≤ i → i < 144 → now'.getD i 0 = now.getD i 0) (r : R3v M ov now) : R3v M ov now' := fun g hg => R3g_c hM (fun i hi => h _ (by omega) (by omega)) (r g hg)
theorem mN_b {hp : sm_H} (hI : ivH IV hp) : 2 ≤ mN hp ∧ mN hp ≤ 6 := by
  obtain ⟨m, em, hm, -⟩ := iv_many hI
  unfold mN
  rw [em]
  omega
/-- calls that touch no ranking -/
noncomputable def R3c (M : List (Nat × Nat)) (W : List Nat) : Bool := [(0, 11), (67, 3)].all (fun q => !M.contains q) && [11, 20, 1006, 1046].all (fun q => !W.contains q)
noncomputable def R3d (M : List (Nat × Nat)) (W : List Nat) : Bool := [(0, 11), (67, 3)].all (fun q => !M.contains q) && [11, 20, 1046].all (fun q => !W.contains q)
theorem an_sc6 {k i : Nat} (h1 : 72 ≤ i) (h2 : i < 144) : an_sc k i = 1000 + 20 * (k - 68) + 6 := by
  unfold an_sc an_pg
  have e1 : Nat.blt i 72 = false := by
    cases e : Nat.blt i 72 with
    | true => have := Nat.ble_eq.mp e; omega
    | false => rfl
  have e2 : Nat.blt i 144 = true := Nat.ble_eq.mpr (by omega)
  rw [e1, e2]
  rfl
theorem R3_fr {M : List (Nat × Nat)} {W : List Nat} {hp hp' : sm_H} (hc : R3c M W = true) (hI : ivH IV hp) (f : fRm M W hp hp') (h : R3 hp) : R3 hp' := by
  unfold R3c at hc
  simp only [List.all_cons, List.all_nil, Bool.and_true, Bool.and_eq_true, Bool.not_eq_true', List.contains_eq_mem, decide_eq_false_iff_not] at hc
  obtain ⟨⟨c1, c2⟩, d1, d2, d3, d4⟩ := hc
  obtain ⟨f1, f2, f3⟩ := f
  have g68 : ∀ i, 72 ≤ i → i < 144 → (exA hp' 68).getD i 0 = (exA hp 68).getD i 0 := fun i h1 h2 => gd_eq (f3 68 i rfl (by rw [an_sc6 h1 h2]; exact d3))
  have g70 : ∀ i, 72 ≤ i → i < 144 → (exA hp' 70).getD i 0 = (exA hp 70).getD i 0 := fun i h1 h2 => gd_eq (f3 70 i rfl (by rw [an_sc6 h1 h2]; exact d4))
  have hm := (mN_b hI).2
  unfold R3 mN
  rw [f1 _ _ c1, f1 _ _ c2, (f2 _ d1).2, (f2 _ d2).2]
  exact ⟨R3v_c hm g68 h.1, fun z => R3v_c hm g70 (h.2 z)⟩
theorem R3_fr68 {M : List (Nat × Nat)} {W : List Nat} {hp hp' : sm_H} (hc : R3d M W = true) (hI : ivH IV hp) (f : fRm M W hp hp') (e : exA hp' 68 = exA hp 68) (h : R3 hp) : R3 hp' := by
  unfold R3d at hc
  simp only [List.all_cons, List.all_nil, Bool.and_true, Bool.and_eq_true, Bool.not_eq_true', List.contains_eq_mem, decide_eq_false_iff_not] at hc
  obtain ⟨⟨c1, c2⟩, d1, d2, d4⟩ := hc
  obtain ⟨f1, f2, f3⟩ := f
  have g70 : ∀ i, 72 ≤ i → i < 144 → (exA hp' 70).getD i 0 = (exA hp 70).getD i 0 := fun i h1 h2 => gd_eq (f3 70 i rfl (by rw [an_sc6 h1 h2]; exact d4))
  have hm := (mN_b hI).2
  unfold R3 mN
  rw [f1 _ _ c1, f1 _ _ c2, (f2 _ d1).2, (f2 _ d2).2, e]
  exact ⟨h.1, fun z => R3v_c hm g70 (h.2 z)⟩
theorem R3_n {P : sm_H → Prop} {q : lw_D} {M M' : List (Nat × Nat)} {W W' : List Nat} (f : fRet q.2.2.2.1 q.2.1 0 M W) (f' : fRet q.2.2.2.2.2.1 q.2.1 67 M' W') (hc : (R3c M W && R3c M' W') = true) : opP P R3 q := fun as hp hp1 hp2 r1 r2 hl hW hI _ hR m1 hW1 hI1 m2 hW2 hI2 => by
  rw [Bool.and_eq_true] at hc
  exact R3_fr hc.2 hI1 (fr_use f' hl hW1 hI1 m2) (R3_fr hc.1 hI (fr_use f hl hW hI m1) hR)
theorem R3_t {P : sm_H → Prop} {q : lw_D} {M M' : List (Nat × Nat)} {W W' : List Nat} (f : fRet q.2.2.2.1 q.2.1 0 M W) (f' : fRet q.2.2.2.2.2.1 q.2.1 67 M' W') (hc : (R3c M W && R3d M' W') = true) (h : ∀ (as : List Int32) (hp1 hp2 : sm_H) (r2 : Int32), as.length = q.2.1 → ivH IV hp1 → EM 400 q.2.2.2.2.2.1 (.ref 67 :: as.map Value.int) hp1 (some (.int r2)) hp2 → ivH IV hp2 → exA hp2 68 = exA hp1 68) : opP P R3 q := fun as hp hp1 hp2 r1 r2 hl hW hI _ hR m1 hW1 hI1 m2 hW2 hI2 => by
  rw [Bool.and_eq_true] at hc
  exact R3_fr68 hc.2 hI1 (fr_use f' hl hW1 hI1 m2) (h as hp1 hp2 r2 hl hI1 m2 hI2) (R3_fr hc.1 hI (fr_use f hl hW hI m1) hR)
theorem iv_lenL {hp : sm_H} {k n : Nat} (h : ivH IV hp) (hk : IV[k]? = some (.inl (1, [(n, 0, 0)]))) : (exL hp k).length = n := by
  obtain ⟨d, d1, d2⟩ := ivH_get h hk
  match d, d1, d2 with
  | .inl (k', .inr l), d1, d2 =>
    obtain ⟨h1, h2, h3⟩ : 1 = k' ∧ k' = 1 ∧ l.length = an_len [(n, 0, 0)] := d2
    have e : exL hp k = l := by unfold exL; rw [d1]
    rw [e, h3]
    rfl
  | .inl (k', .inl l), d1, d2 =>
    obtain ⟨h1, h2, h3⟩ : 1 = k' ∧ k' ≠ 1 ∧ an_rA [(n, 0, 0)] l := d2
    exact absurd h1.symm h2
  | .inr _, _, d2 => exact d2.elim
/-! the calls that set them -/
theorem fill_L {x : Int64} : ∀ (m i : Nat) (l : List Int64), i + m = l.length → l.length < 2147483648 → (kja_fill_11_6 x m (nI i) l).length = l.length ∧ ∀ j, (i ≤ j → j < l.length → (kja_fill_11_6 x m (nI i) l).getD j 0 = x) ∧ (j < i → (kja_fill_11_6 x m (nI i) l).getD j 0 = l.getD j 0)
  | 0, i, l, h, _ => ⟨rfl, fun j => ⟨fun h1 h2 => by omega, fun _ => rfl⟩⟩
  | m + 1, i, l, h, hb => by
    show (kja_fill_11_6 x m (nI i + 1) (l.set (nI i).toInt.toNat x)).length = l.length ∧ ∀ j, (i ≤ j → j < l.length → (kja_fill_11_6 x m (nI i + 1) (l.set (nI i).toInt.toNat x)).getD j 0 = x) ∧ (j < i → (kja_fill_11_6 x m (nI i + 1) (l.set (nI i).toInt.toNat x)).getD j 0 = l.getD j 0)
    rw [nJ_ix (by omega), nJ_1 (by omega)]
    obtain ⟨q1, q2⟩ := fill_L (x := x) m (i + 1) (l.set i x) (by rw [List.length_set]; omega) (by rw [List.length_set]; exact hb)
    rw [List.length_set] at q1 q2
    refine ⟨q1, fun j => ⟨fun h1 h2 => ?_, fun h1 => ?_⟩⟩
    · by_cases e : j = i
      · rw [(q2 j).2 (by omega), gd_set (by omega), if_pos e]
      · exact (q2 j).1 (by omega) h2
    · rw [(q2 j).2 (by omega), gd_set (by omega), if_neg (by omega)]
theorem fill_0 {l : List Int64} (h : l.length = 12) {j : Nat} (hj : j < 12) : (kja_fill_11 l 0).getD j 0 = 0 := by
  unfold kja_fill_11
  rw [h, show ((Int32.ofNat 12).toInt).toNat = 12 from rfl]
  exact ((fill_L (x := 0) 12 0 l (by omega) (by omega)).2 j).1 (by omega) (by omega)
theorem none_0 {l : List Int32} {x : Int32} {g : Nat} (hx : x.toInt = (g : Int)) (hg : g < 12) (hl : l.length = 150) {i : Nat} (hi : i < 6) : (km_ranksNone l x).getD (72 + 6 * g + i) 0 = 0 := by
  have loop : ∀ m k (a : List Int32), k + m = 6 → a.length = 150 → (k ≤ i → (km_ranksNone_2 x m (nI k) a).getD (72 + 6 * g + i) 0 = 0) ∧ (i < k → (km_ranksNone_2 x m (nI k) a).getD (72 + 6 * g + i) 0 = a.getD (72 + 6 * g + i) 0) := by
    intro m
    induction m with
    | zero => intro k a hk ha; exact ⟨fun z => by omega, fun _ => rfl⟩
    | succ m ih =>
      intro k a hk ha
      have e := nI_toInt (n := k) (by omega)
      have q := pl_idx (x := x) (i := nI k) ⟨by omega, by omega⟩ ⟨by omega, by omega⟩
      show (k ≤ i → (km_ranksNone_2 x m (nI k + 1) (a.set ((72 + (6 * x)) + nI k).toInt.toNat 0)).getD (72 + 6 * g + i) 0 = 0) ∧ (i < k → (km_ranksNone_2 x m (nI k + 1) (a.set ((72 + (6 * x)) + nI k).toInt.toNat 0)).getD (72 + 6 * g + i) 0 = a.getD (72 + 6 * g + i) 0)
      rw [nJ_1 (by omega), show ((72 + (6 * x)) + nI k).toInt.toNat = 72 + 6 * g + k by omega]
      obtain ⟨q1, q2⟩ := ih (k + 1) (a.set (72 + 6 * g + k) 0) (by omega) (by rw [List.length_set]; exact ha)
      refine ⟨fun z => ?_, fun z => ?_⟩
      · by_cases e2 : i = k
        · rw [q2 (by omega), gd_set (by omega), if_pos (by omega)]
        · exact q1 (by omega)
      · rw [q2 (by omega), gd_set (by omega), if_neg (by omega)]
  exact (loop 6 0 l rfl hl).1 (by omega)
