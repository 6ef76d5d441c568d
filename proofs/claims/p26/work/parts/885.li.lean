/-! lie -/
section LI
variable {d : Nat} {F : Nat → Nat → Int32} {A : Nat → List Int32} {L : Nat → List Int64} {Q : Option Value → sm_H → Prop}
noncomputable def liI (A A1 : Nat → List Int32) (g : Nat) : Prop := frA [68, 87, 89, 92, 93, 94] A A1 ∧ (A1 68).length = 150 ∧ ((A1 87).length = 6 ∧ (A1 89).length = 6 ∧ (A1 92).length = 6 ∧ (A1 93).length = 6 ∧ (A1 94).length = 6) ∧ (∀ j, ¬ (72 + 6 * g ≤ j ∧ j < 78 + 6 * g) → (A1 68).getD j 0 = (A 68).getD j 0) ∧ (∀ i, i < 6 → (A1 94).getD i 0 = (A 68).getD (72 + 6 * g + i) 0)
theorem liI_tr {A1 A2 : Nat → List Int32} {g : Nat} (h : liI A A1 g) (hf : frA [87, 89, 92, 93] A1 A2) (l87 : (A2 87).length = 6) (l89 : (A2 89).length = 6) (l92 : (A2 92).length = 6) (l93 : (A2 93).length = 6) : liI A A2 g := by
  obtain ⟨h1, h2, h3, h4, h5⟩ := h
  have e68 := hf 68 (by decide)
  have e94 := hf 94 (by decide)
  exact ⟨frA_tr h1 hf (fun _ z => z) (by decide), by rw [e68]; exact h2, ⟨l87, l89, l92, l93, by rw [e94]; exact h3.2.2.2.2⟩, by rw [e68]; exact h4, by rw [e94]; exact h5⟩
theorem liI_68 {A1 : Nat → List Int32} {g j : Nat} {v : Int32} (h : liI A A1 g) (hj : 72 + 6 * g ≤ j ∧ j < 78 + 6 * g) (hg : g ≤ 11) : liI A (uA A1 68 ((A1 68).set j v)) g := by
  obtain ⟨h1, h2, h3, h4, h5⟩ := h
  refine ⟨frA_u h1 (by decide), by rw [uA_eq, List.length_set]; exact h2, h3, fun i hi => ?_, h5⟩
  rw [uA_eq, gd_set (by omega), if_neg (fun z => hi (by rw [z]; exact hj))]
  exact h4 i hi
theorem li_end {x y b : Int32} {g : Nat} (hx : x.toInt = (g : Int)) (hg : g ≤ 11) (h68 : (A 68).length = 150) (hy : y = 10 ∨ (0 ≤ y.toInt ∧ y.toInt ≤ 5))
    (hQ : ∀ (r : Int32) (A' : Nat → List Int32), frA [87, 89, 92, 93, 94] A A' → ((A' 87).length = 6 ∧ (A' 89).length = 6 ∧ (A' 92).length = 6 ∧ (A' 93).length = 6 ∧ (A' 94).length = 6) → Q (some (.int r)) (hz F A' L)) :
    ∀ (m kk : Nat) (A1 : Nat → List Int32) (n gg k : Int32), k.toInt = (kk : Int) → kk + m = 6 → liI A A1 g → (∀ i, i < kk → (A1 68).getD (72 + 6 * g + i) 0 = (A 68).getD (72 + 6 * g + i) 0) →
    wp_E (d + 4) mm234.2.2.2.2.2.2.2.2 175 [some (.ref 67), some (.int x), some (.int y), some (.int b), some (.int n), some (.int gg), some (.int k)] [] (hz F A1 L) Q := by
  have z6 : (6 : Int32).toInt = 6 := rfl
  intro m
  induction m with
  | zero =>
    intro kk A1 n gg k hk hkm hI hr
    have e68 : A1 68 = A 68 := by
      apply List.ext_getElem?
      intro j
      have q := hI.2.1
      by_cases hj : j < 150
      · have hv : (A1 68).getD j 0 = (A 68).getD j 0 := by
          by_cases hin : 72 + 6 * g ≤ j ∧ j < 78 + 6 * g
          · have := hr (j - (72 + 6 * g)) (by omega)
            rw [show 72 + 6 * g + (j - (72 + 6 * g)) = j by omega] at this
            exact this
          · exact hI.2.2.2.1 j hin
        rw [List.getD_eq_getElem?_getD, List.getD_eq_getElem?_getD, List.getElem?_eq_getElem (by omega), List.getElem?_eq_getElem (by omega)] at hv
        rw [List.getElem?_eq_getElem (by omega), List.getElem?_eq_getElem (by omega)]
        exact congrArg some hv
      · rw [List.getElem?_eq_none (by omega), List.getElem?_eq_none (by omega)]
    have f1 : frA [87, 89, 92, 93, 94] A A1 := fun j hj => by
      by_cases e : j = 68
      · rw [e, e68]
      · exact hI.1 j (fun z => by rcases List.mem_cons.mp z with z | z; exact e z; exact hj z)
    have l93 := hI.2.2.1.2.2.2.1
    refine g_lic ⟨fun _ => ⟨fun hy' => ⟨fun _ => ⟨?_, hQ _ A1 f1 hI.2.2.1⟩, fun _ => hQ _ A1 f1 hI.2.2.1⟩, fun _ => hQ _ A1 f1 hI.2.2.1⟩, fun z => absurd z (by omega)⟩
    rcases hy with h | h
    · exact absurd h hy'
    · exact ⟨by omega, by omega⟩
  | succ m ih =>
    intro kk A1 n gg k hk hkm hI hr
    have q1 := pl_idx (x := x) (i := k) ⟨by omega, by omega⟩ ⟨by omega, by omega⟩
    have l68 := hI.2.1
    have l94 := hI.2.2.1.2.2.2.2
    have ej : ((72 + (6 * x)) + k).toInt.toNat = 72 + 6 * g + kk := by omega
    refine g_lic ⟨fun z => absurd z (by omega), fun _ => ⟨⟨by omega, by omega⟩, ⟨by omega, by omega⟩, ?_⟩⟩
    rw [ej, show k.toInt.toNat = kk by omega]
    refine ih (kk + 1) _ n gg (k + 1) (by rw [i_1 (by omega), hk]; omega) (by omega) (liI_68 hI ⟨by omega, by omega⟩ hg) (fun i hi => ?_)
    rw [uA_eq, gd_set (by omega)]
    split
    · rename_i e
      rw [e]
      rw [show 72 + 6 * g + kk = 72 + 6 * g + i by omega]
      rw [hI.2.2.2.2 kk (by omega)]
      rw [show kk = i by omega]
    · exact hr i (by omega)
theorem r_li {x y : Int32} {n : Nat} (hn : n ≤ 6) (hn2 : 2 ≤ n) (hm : (F 67 3).toInt = (n : Int)) (h68 : (A 68).length = 150) (h87 : (A 87).length = 6) (h89 : (A 89).length = 6) (h92 : (A 92).length = 6) (h93 : (A 93).length = 6) (h94 : (A 94).length = 6)
    (hQ : ∀ (r : Int32) (A' : Nat → List Int32), frA [87, 89, 92, 93, 94] A A' → ((A' 87).length = 6 ∧ (A' 89).length = 6 ∧ (A' 92).length = 6 ∧ (A' 93).length = 6 ∧ (A' 94).length = 6) → Q (some (.int r)) (hz F A' L)) : wp_M (d + 5) 234 [.ref 67, .int x, .int y] (hz F A L) Q := by
  have z6 : (6 : Int32).toInt = 6 := rfl
  refine q_m (E := mm234) rfl ⟨Nat.le_of_ble_eq_true rfl, Nat.le_of_ble_eq_true rfl⟩ ?_
  have m1 : (F 67 3 - 1).toInt = (n : Int) - 1 := by rw [i_m1 (by omega), hm]
  have body : ¬ gV x (A 68) = 0 → (y = 10 ∨ (0 ≤ y.toInt ∧ y.toInt ≤ 5)) → wp_M (d + 4) 210 [.ref 67] (hz F A L) (fun w hp1 => wp_E (d + 4) mm234.2.2.2.2.2.2.2.2 40 [some (.ref 67), some (.int x), some (.int y), none, none, none, none] (w.toList ++ []) hp1 Q) := by
    intro hgx hy
    obtain ⟨x1, x2⟩ := gV_b hgx
    obtain ⟨g, hg⟩ : ∃ g : Nat, x.toInt = (g : Int) := ⟨x.toInt.toNat, by omega⟩
    have hg11 : g ≤ 11 := by omega
    refine r_ro (d := d) (by omega) (by omega) h68 h87 h89 (fun b A0 f0 l87 l89 b1 b2 => g_li1 ?_)
    have ex : ∀ (A1 : Nat → List Int32) (n0 : Int32) (v : Option Value), liI A A1 g → wp_E (d + 4) mm234.2.2.2.2.2.2.2.2 81 [some (.ref 67), some (.int x), some (.int y), some (.int b), some (.int n0), some (.int 0), v] [] (hz F A1 L) Q := by
      intro A1 n0 v hI
      exact g_li5 ⟨fun _ => li_end hg hg11 h68 hy hQ 6 0 A1 n0 0 0 rfl rfl hI (fun i hi => absurd hi (by omega)), fun z => absurd rfl z⟩
    have loop : ∀ (k : Nat) (A1 : Nat → List Int32) (p : List Nat) (n0 gg : Int32) (v : Option Value), rn n k p = true → agr (A1 92) p n → liI A A1 g → ¬ gg = 0 → wp_E (d + 4) mm234.2.2.2.2.2.2.2.2 81 [some (.ref 67), some (.int x), some (.int y), some (.int b), some (.int n0), some (.int gg), v] [] (hz F A1 L) Q := by
      intro k
      induction k with
      | zero => intro A1 p n0 gg v hr; cases hr
      | succ k ih =>
        intro A1 p n0 gg v hr hag hI hgg
        obtain ⟨hr1, hr2⟩ := rn_b hr
        have aft : ∀ (A2 : Nat → List Int32) (n1 k2 : Int32), A2 92 = A1 92 → liI A A2 g → wp_E (d + 4) mm234.2.2.2.2.2.2.2.2 159 [some (.ref 67), some (.int x), some (.int y), some (.int b), some (.int n1), some (.int gg), some (.int k2)] [] (hz F A2 L) Q := by
          intro A2 n1 k2 e92 hI2
          obtain ⟨q1, q2, q3, q4, q5⟩ := hI2.2.2.1
          refine g_lia (r_gn (d := d + 2) hn hn2 hm (p := p) (by rw [e92]; exact hag) (fun _ => ?_) (fun p' hp' A' f3 ag' => ?_))
          · exact g_lib (ex A2 n1 _ hI2)
          · exact g_lib (ih A' p' n1 1 _ (hr2 p' hp') ag' (liI_tr hI2 (frA_tr f3 frA_rf (by decide) (fun _ z => z)) (by rw [f3 87 (by decide)]; exact q1) (by rw [f3 89 (by decide)]; exact q2) ag'.1 (by rw [f3 93 (by decide)]; exact q4)) (by decide))
        have inner : ∀ (m kk : Nat) (A2 : Nat → List Int32) (k2 : Int32), k2.toInt = (kk : Int) → kk + m = n → A2 92 = A1 92 → liI A A2 g → wp_E (d + 4) mm234.2.2.2.2.2.2.2.2 89 [some (.ref 67), some (.int x), some (.int y), some (.int b), some (.int n0), some (.int gg), some (.int k2)] [] (hz F A2 L) Q := by
          intro m
          induction m with
          | zero =>
            intro kk A2 k2 hk hkm e92 hI2
            obtain ⟨q1, q2, q3, q4, q5⟩ := hI2.2.2.1
            refine g_li6 ⟨fun _ => g_li7 ?_, fun z => absurd z (by omega)⟩
            refine r_ro (d := d) (by omega) (by omega) hI2.2.1 q1 q2 (fun r A3 f3 w87 w89 r1 r2 => ?_)
            have hI3 : liI A A3 g := liI_tr hI2 (frA_tr f3 frA_rf (by decide) (fun _ z => z)) w87 w89 (by rw [f3 92 (by decide)]; exact q3) (by rw [f3 93 (by decide)]; exact q4)
            have e92' : A3 92 = A1 92 := by rw [f3 92 (by decide)]; exact e92
            obtain ⟨s1, s2, s3, s4, s5⟩ := hI3.2.2.1
            refine g_li8 ⟨⟨by omega, by omega⟩, ⟨by omega, by omega⟩, fun _ => aft A3 n0 k2 e92' hI3, fun _ => ⟨fun _ => aft A3 _ k2 e92' hI3, fun _ => ?_⟩⟩
            refine r_kr (d := d + 3) (p := p) hn hm s3 s4 (fun A4 f4 l4 _ => g_li9 (aft A4 _ k2 (by rw [f4 92 (by decide)]; exact e92') ?_))
            exact liI_tr hI3 (frA_tr f4 frA_rf (by decide) (fun _ z => z)) (by rw [f4 87 (by decide)]; exact s1) (by rw [f4 89 (by decide)]; exact s2) (by rw [f4 92 (by decide)]; exact s3) l4
          | succ m ihm =>
            intro kk A2 k2 hk hkm e92 hI2
            obtain ⟨q1, q2, q3, q4, q5⟩ := hI2.2.2.1
            have a1 := hag.2.2 kk (by omega)
            have a2 := hr1 kk (by omega)
            have hj := pl_idx (x := x) (i := (A2 92).getD k2.toInt.toNat 0) ⟨x1, x2⟩ (by rw [e92, show k2.toInt.toNat = kk by omega, a1]; omega)
            have hb : ((A2 92).getD k2.toInt.toNat 0).toInt = ((p.getD kk 0 : Nat) : Int) := by rw [e92, show k2.toInt.toNat = kk by omega, a1]
            have l68 := hI2.2.1
            refine g_li6 ⟨fun z => absurd z (by omega), fun _ => ⟨⟨by omega, by omega⟩, ⟨by omega, by omega⟩, ?_⟩⟩
            refine ihm (kk + 1) _ (k2 + 1) (by rw [i_1 (by omega), hk]; omega) (by omega) (by rw [uA_ne (by decide)]; exact e92) (liI_68 hI2 ⟨by omega, by omega⟩ hg11)
        exact g_li5 ⟨fun z => absurd z hgg, fun _ => inner n 0 A1 0 rfl (by omega) rfl hI⟩
    have first : ∀ (m ii : Nat) (A1 : Nat → List Int32) (i : Int32), i.toInt = (ii : Int) → ii + m = 6 → frA [87, 89, 94] A A1 → (A1 87).length = 6 → (A1 89).length = 6 → (A1 94).length = 6 → (∀ j, j < ii → (A1 94).getD j 0 = (A 68).getD (72 + 6 * g + j) 0) → wp_E (d + 4) mm234.2.2.2.2.2.2.2.2 44 [some (.ref 67), some (.int x), some (.int y), some (.int b), some (.int i), none, none] [] (hz F A1 L) Q := by
      intro m
      induction m with
      | zero =>
        intro ii A1 i hi him f1 w87 w89 w94 hc
        refine g_li2 ⟨fun _ => g_li3 ?_, fun z => absurd z (by omega)⟩
        refine r_br (d := d + 3) hn hm (by rw [f1 92 (by decide)]; exact h92) (fun A2 f2 ag => g_li4 (loop 721 A2 row0 0 1 none (rn_ok n (by omega) hn2) ag ?_ (by decide)))
        refine ⟨frA_tr f1 f2 (by decide) (by decide), by rw [f2 68 (by decide), f1 68 (by decide)]; exact h68, ⟨by rw [f2 87 (by decide)]; exact w87, by rw [f2 89 (by decide)]; exact w89, ag.1, by rw [f2 93 (by decide), f1 93 (by decide)]; exact h93, by rw [f2 94 (by decide)]; exact w94⟩, fun j _ => by rw [f2 68 (by decide), f1 68 (by decide)], fun j hj => by rw [f2 94 (by decide)]; exact hc j (by omega)⟩
      | succ m ih =>
        intro ii A1 i hi him f1 w87 w89 w94 hc
        have q1 := pl_idx (x := x) (i := i) ⟨x1, x2⟩ ⟨by omega, by omega⟩
        have e68 : A1 68 = A 68 := f1 68 (by decide)
        refine g_li2 ⟨fun z => absurd z (by omega), fun _ => ⟨⟨by omega, by rw [e68]; omega⟩, ⟨by omega, by omega⟩, ?_⟩⟩
        rw [show i.toInt.toNat = ii by omega, show ((72 + (6 * x)) + i).toInt.toNat = 72 + 6 * g + ii by omega, e68]
        refine ih (ii + 1) _ (i + 1) (by rw [i_1 (by omega), hi]; omega) (by omega) (frA_u f1 (by decide)) w87 w89 (by rw [uA_eq, List.length_set]; exact w94) (fun j hj => ?_)
        rw [uA_eq, gd_set (by omega)]
        split
        · rename_i e; rw [e]
        · exact hc j (by omega)
    exact first 6 0 A0 0 rfl rfl (frA_tr f0 frA_rf (by decide) (fun _ z => z)) l87 l89 (by rw [f0 94 (by decide)]; exact h94) (fun j hj => absurd hj (by omega))
  have ls : (A 87).length = 6 ∧ (A 89).length = 6 ∧ (A 92).length = 6 ∧ (A 93).length = 6 ∧ (A 94).length = 6 := ⟨h87, h89, h92, h93, h94⟩
  exact g_li0 ⟨h68, fun _ => hQ _ A frA_rf ls, fun hgx => ⟨fun hy => ⟨fun _ => body hgx (Or.inl hy), fun _ => hQ _ A frA_rf ls⟩, fun _ => ⟨fun hy => ⟨fun _ => body hgx (Or.inr ⟨(mV_b hy).1, by have := (mV_b hy).2; omega⟩), fun _ => hQ _ A frA_rf ls⟩, fun _ => hQ _ A frA_rf ls⟩⟩⟩
end LI
