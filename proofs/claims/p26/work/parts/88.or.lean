/-! orders, agenda, lie -/
section OR
variable {d : Nat} {F : Nat → Nat → Int32} {A : Nat → List Int32} {L : Nat → List Int64} {Q : Option Value → sm_H → Prop}
theorem mV_b {x m : Int32} (h : ¬ mV x m = 0) : 0 ≤ x.toInt ∧ x.toInt ≤ (m - 1).toInt := by
  unfold mV at h
  split at h
  · assumption
  · exact absurd rfl h
theorem gV_b {x : Int32} {t : List Int32} (h : ¬ gV x t = 0) : 0 ≤ x.toInt ∧ x.toInt ≤ 11 := by
  unfold gV at h
  split at h
  · rename_i z; exact z.1
  · exact absurd rfl h
theorem r_or {x y : Int32} {n : Nat} (hn : n ≤ 6) (hn2 : 2 ≤ n) (hm : (F 67 3).toInt = (n : Int)) (h68 : (A 68).length = 150) (h92 : (A 92).length = 6) (h93 : (A 93).length = 6)
    (hQ : ∀ (r : Int32) (A' : Nat → List Int32), frA [92, 93] A A' → (A' 92).length = 6 → (A' 93).length = 6 → Q (some (.int r)) (hz F A' L)) : wp_M (d + 6) 223 [.ref 67, .int x, .int y] (hz F A L) Q := by
  refine q_m (E := mm223) rfl ⟨Nat.le_of_ble_eq_true rfl, Nat.le_of_ble_eq_true rfl⟩ ?_
  have m1 : (F 67 3 - 1).toInt = (n : Int) - 1 := by rw [i_m1 (by omega), hm]
  have body : (y = 10 ∨ (0 ≤ y.toInt ∧ y.toInt ≤ 5)) → wp_M (d + 5) 224 [.ref 67] (hz F A L) (fun w hp1 => wp_E (d + 5) mm223.2.2.2.2.2.2.2.2 28 [some (.ref 67), some (.int x), some (.int y), none, none, none, none] (w.toList ++ []) hp1 Q) := by
    intro hy
    have ex : ∀ (A1 : Nat → List Int32) (n0 : Int32) (u v : Option Value), frA [92, 93] A A1 → (A1 92).length = 6 → (A1 93).length = 6 → wp_E (d + 5) mm223.2.2.2.2.2.2.2.2 33 [some (.ref 67), some (.int x), some (.int y), some (.int n0), some (.int 0), u, v] [] (hz F A1 L) Q := by
      intro A1 n0 u v f1 l92 l93
      refine g_or2 ⟨fun _ => ⟨fun hy' => ⟨fun _ => ⟨?_, hQ _ A1 f1 l92 l93⟩, fun _ => hQ _ A1 f1 l92 l93⟩, fun _ => hQ _ A1 f1 l92 l93⟩, fun z => absurd rfl z⟩
      rcases hy with h | h
      · exact absurd h hy'
      · exact ⟨by omega, by omega⟩
    have loop : ∀ (k : Nat) (A1 : Nat → List Int32) (p : List Nat) (n0 g : Int32) (u v : Option Value), rn n k p = true → agr (A1 92) p n → frA [92, 93] A A1 → (A1 93).length = 6 → ¬ g = 0 → wp_E (d + 5) mm223.2.2.2.2.2.2.2.2 33 [some (.ref 67), some (.int x), some (.int y), some (.int n0), some (.int g), u, v] [] (hz F A1 L) Q := by
      intro k
      induction k with
      | zero => intro A1 p n0 g u v hr; cases hr
      | succ k ih =>
        intro A1 p n0 g u v hr hag f1 l93 hg
        obtain ⟨hr1, hr2⟩ := rn_b hr
        have l92 := hag.1
        have ent : ∀ i, i < n → 0 ≤ ((A1 92).getD i 0).toInt ∧ ((A1 92).getD i 0).toInt ≤ 5 := fun i hi => by
          have := hag.2.2 i hi
          have := hr1 i hi
          omega
        have aft : ∀ (A2 : Nat → List Int32) (c k2 : Int32), frA [93] A1 A2 → (A2 93).length = 6 → wp_E (d + 5) mm223.2.2.2.2.2.2.2.2 93 [some (.ref 67), some (.int x), some (.int y), some (.int n0), some (.int g), some (.int c), some (.int k2)] [] (hz F A2 L) Q := by
          intro A2 c k2 f2 l93'
          have ag2 : agr (A2 92) p n := by rw [f2 92 (by decide)]; exact hag
          have f12 : frA [92, 93] A A2 := frA_tr f1 f2 (fun _ z => z) (by decide)
          have key : ∀ n1 : Int32, wp_M (d + 5) 226 [.ref 67, .int (F 67 3)] (hz F A2 L) (fun w hp1 => wp_E (d + 5) mm223.2.2.2.2.2.2.2.2 115 [some (.ref 67), some (.int x), some (.int y), some (.int n1), some (.int g), some (.int c), some (.int k2)] (w.toList ++ []) hp1 Q) := by
            intro n1
            refine r_gn (d := d + 3) hn hn2 hm ag2 (fun _ => ?_) (fun p' hp' A' f3 ag' => ?_)
            · exact g_or6 (ex A2 n1 _ _ f12 ag2.1 l93')
            · refine g_or6 (ih A' p' n1 1 _ _ (hr2 p' hp') ag' (frA_tr f12 f3 (fun _ z => z) (by decide)) ?_ (by decide))
              rw [f3 93 (by decide)]; exact l93'
          exact g_or5 ⟨fun _ => key _, fun _ => key _⟩
        have inner : ∀ (m kk : Nat) (c k2 : Int32), k2.toInt = (kk : Int) → kk + m = n → 0 ≤ c.toInt → c.toInt ≤ 5 → wp_E (d + 5) mm223.2.2.2.2.2.2.2.2 49 [some (.ref 67), some (.int x), some (.int y), some (.int n0), some (.int g), some (.int c), some (.int k2)] [] (hz F A1 L) Q := by
          intro m
          induction m with
          | zero =>
            intro kk c k2 hk hkm c1 c2
            refine g_or3 ⟨fun _ => ⟨fun _ => aft A1 c k2 frA_rf l93, fun _ => ⟨fun _ => aft A1 c k2 frA_rf l93, fun _ => ?_⟩⟩, fun z => absurd z (by omega)⟩
            exact r_kr (d := d + 4) (p := p) hn hm l92 l93 (fun A' f3 l3 _ => aft A' c k2 f3 l3)
          | succ m ihm =>
            intro kk c k2 hk hkm c1 c2
            have hb := ent kk (by omega)
            refine g_or3 ⟨fun z => absurd z (by omega), fun _ => ⟨⟨by omega, by omega⟩, ?_⟩⟩
            rw [show k2.toInt.toNat = kk by omega]
            refine r_wi (d := d) ⟨c1, c2⟩ hb (by rw [f1 68 (by decide)]; exact h68) (fun r r1 r2 => ?_)
            exact g_or4 (ihm (kk + 1) r (k2 + 1) (by rw [i_1 (by omega), hk]; omega) (by omega) r1 r2)
        have e0n := ent 0 (by omega)
        exact g_or2 ⟨fun z => absurd z hg, fun _ => ⟨⟨by decide, by rw [l92]; decide⟩, inner (n - 1) 1 _ 1 rfl (by omega) e0n.1 e0n.2⟩⟩
    refine r_br (d := d + 4) hn hm h92 (fun A' f1 ag => g_or1 (loop 721 A' row0 0 1 none none (rn_ok n (by omega) hn2) ag (frA_tr f1 frA_rf (by decide) (fun _ z => z)) ?_ (by decide)))
    rw [f1 93 (by decide)]; exact h93
  exact g_or0 ⟨fun _ => hQ _ A frA_rf h92 h93, fun _ => ⟨fun hy => body (Or.inl hy), fun _ => ⟨fun hy => body (Or.inr ⟨(mV_b hy).1, by have := (mV_b hy).2; omega⟩), fun _ => hQ _ A frA_rf h92 h93⟩⟩⟩
/-- agenda -/
noncomputable def lwb (l : List Int32) (k : Int) : Prop := l.length = 9 ∧ ∀ i : Nat, (i : Int) < k → l.getD i 0 = (-1) ∨ (0 ≤ (l.getD i 0).toInt ∧ (l.getD i 0).toInt ≤ 5)
theorem lwb_set {l : List Int32} {k : Int} {j : Nat} {x : Int32} (h : lwb l k) (hj : j < 9) (hx : x = (-1) ∨ (0 ≤ x.toInt ∧ x.toInt ≤ 5)) : lwb (l.set j x) k := by
  refine ⟨by rw [List.length_set]; exact h.1, fun i hi => ?_⟩
  rw [gd_set (by have := h.1; omega)]
  split
  · exact hx
  · exact h.2 i hi
theorem lwb_up {l : List Int32} {k k' : Int} {j : Nat} {x : Int32} (h : lwb l k) (hj : (j : Int) = k) (hk : k' = k + 1) (hj9 : j < 9) (hx : x = (-1) ∨ (0 ≤ x.toInt ∧ x.toInt ≤ 5)) : lwb (l.set j x) k' := by
  refine ⟨by rw [List.length_set]; exact h.1, fun i hi => ?_⟩
  rw [gd_set (by have := h.1; omega)]
  split
  · exact hx
  · exact h.2 i (by omega)
noncomputable def agI (F : Nat → Nat → Int32) (A : Nat → List Int32) : Prop := 0 ≤ (F 67 9).toInt ∧ (F 67 9).toInt ≤ (F 67 10).toInt ∧ (F 67 10).toInt ≤ 60 ∧ (A 71).length = 260 ∧ (A 68).length = 150 ∧ 2 ≤ (F 67 3).toInt ∧ (F 67 3).toInt ≤ 6
noncomputable def agQ (Q : Option Value → sm_H → Prop) (F : Nat → Nat → Int32) (A : Nat → List Int32) (L : Nat → List Int64) : Prop := ∀ (r : Int32) (F' : Nat → Nat → Int32) (A' : Nat → List Int32), frF [9, 11] F F' → frA [91] A A' → (A' 91).length = 9 → 0 ≤ (F' 67 9).toInt → (F' 67 9).toInt ≤ (F 67 10).toInt → Q (some (.int r)) (hz F' A' L)
theorem agQ_tr {F1 : Nat → Nat → Int32} {A1 : Nat → List Int32} (h : agQ Q F A L) (hF : frF [9, 11] F F1) (hA : frA [91] A A1) : agQ Q F1 A1 L := fun r F' A' f1 f2 f3 f4 f5 => h r F' A' (frF_tr hF f1 (fun _ z => z) (fun _ z => z)) (frA_tr hA f2 (fun _ z => z) (fun _ z => z)) f3 f4 (by rw [hF 67 10 (by decide)] at f5; exact f5)
theorem r_ag_loop {x : Int32} : ∀ (m : Nat),
    (∀ (F : Nat → Nat → Int32) (A : Nat → List Int32) (k : Int32) (v : Option Value), agI F A → (F 67 10).toInt - (F 67 9).toInt ≤ (m : Int) → 0 ≤ k.toInt → k.toInt ≤ 8 → lwb (A 91) k.toInt → agQ Q F A L →
      wp_E (d + 5) mm221.2.2.2.2.2.2.2.2 37 [some (.ref 67), some (.int x), some (.int k), v] [] (hz F A L) Q) ∧
    (∀ (F : Nat → Nat → Int32) (A : Nat → List Int32) (k c : Int32), agI F A → (F 67 10).toInt - (F 67 9).toInt ≤ (m : Int) → 0 ≤ k.toInt → k.toInt ≤ 8 → lwb (A 91) k.toInt → 0 ≤ c.toInt → c.toInt ≤ 5 → agQ Q F A L →
      wp_E (d + 5) mm221.2.2.2.2.2.2.2.2 114 [some (.ref 67), some (.int x), some (.int k), some (.int c)] [] (hz F A L) Q) := by
  have z8 : (8 : Int32).toInt = 8 := rfl
  have i8 : ∀ k : Int32, k.toInt = 8 → k = 8 := fun k h => Int32.toInt_inj.mp h
  have i0 : ∀ k : Int32, k.toInt = 0 → k = 0 := fun k h => Int32.toInt_inj.mp h
  intro m
  induction m with
  | zero =>
    have p37 : ∀ (F : Nat → Nat → Int32) (A : Nat → List Int32) (k : Int32) (v : Option Value), agI F A → (F 67 10).toInt - (F 67 9).toInt ≤ 0 → 0 ≤ k.toInt → k.toInt ≤ 8 → lwb (A 91) k.toInt → agQ Q F A L →
        wp_E (d + 5) mm221.2.2.2.2.2.2.2.2 37 [some (.ref 67), some (.int x), some (.int k), v] [] (hz F A L) Q := by
      intro F A k v ⟨a1, a2, a3, a4, a5, a6, a7⟩ hm k1 k2 hl hQ
      have hv : hV (F 67 9) (F 67 10) (A 71) = (-1) := by unfold hV; rw [if_neg (by omega)]
      refine g_ag1 ⟨⟨a1, by omega⟩, fun _ => ?_, fun z => absurd (z.symm.trans hv) (by decide)⟩
      refine g_ag2 ⟨⟨a1, by omega⟩, fun z => ?_, fun _ => hQ _ _ _ (frF_u frF_rf (by decide)) frA_rf hl.1 (by rw [uF_ne (by decide)]; exact a1) (by rw [uF_ne (by decide)]; exact a2)⟩
      rw [hv] at z
      exact absurd (mV_b z).1 (by decide)
    refine ⟨p37, ?_⟩
    intro F A k c ⟨a1, a2, a3, a4, a5, a6, a7⟩ hm k1 k2 hl c1 c2 hQ
    have km : 0 < k.toInt → (k - 1).toInt = k.toInt - 1 := fun h => i_m1 (by omega)
    have hv : hV (F 67 9) (F 67 10) (A 71) = (-1) := by unfold hV; rw [if_neg (by omega)]
    have h174 : wp_E (d + 5) mm221.2.2.2.2.2.2.2.2 174 [some (.ref 67), some (.int x), some (.int k), some (.int c)] [] (hz F A L) Q := by
      refine g_ag5 ⟨fun z => ?_, fun z => ⟨fun _ => hQ _ F A frF_rf frA_rf hl.1 a1 a2, fun _ => hQ _ _ _ (frF_u frF_rf (by decide)) frA_rf hl.1 (by rw [uF_ne (by decide)]; exact a1) (by rw [uF_ne (by decide)]; exact a2)⟩⟩
      have kp : 0 < k.toInt := by
        rcases Int.lt_or_eq_of_le k1 with h | h
        · exact h
        · exact absurd (i0 k h.symm) z
      have := km kp
      have := hl.1
      refine ⟨⟨by omega, by omega⟩, p37 F _ k _ ⟨a1, a2, a3, a4, a5, a6, a7⟩ hm k1 k2 ?_ (agQ_tr hQ frF_rf (frA_u frA_rf (by decide)))⟩
      rw [uA_eq]
      exact lwb_set hl (by omega) (Or.inr ⟨c1, c2⟩)
    refine g_ag3 ⟨fun _ => h174, fun kp => ?_⟩
    have := km kp
    have := hl.1
    refine ⟨⟨by omega, by omega⟩, fun _ => h174, fun z => ⟨⟨a1, by omega⟩, fun z => absurd (z.symm.trans hv) (by decide), fun _ => hQ _ _ _ (frF_u frF_rf (by decide)) frA_rf hl.1 (by rw [uF_ne (by decide)]; exact a1) (by rw [uF_ne (by decide)]; exact a2)⟩⟩
  | succ m ih =>
    have p37 : ∀ (F : Nat → Nat → Int32) (A : Nat → List Int32) (k : Int32) (v : Option Value), agI F A → (F 67 10).toInt - (F 67 9).toInt ≤ ((m + 1 : Nat) : Int) → 0 ≤ k.toInt → k.toInt ≤ 8 → lwb (A 91) k.toInt → agQ Q F A L →
        wp_E (d + 5) mm221.2.2.2.2.2.2.2.2 37 [some (.ref 67), some (.int x), some (.int k), v] [] (hz F A L) Q := by
      intro F A k v ⟨a1, a2, a3, a4, a5, a6, a7⟩ hm k1 k2 hl hQ
      have p1 : (F 67 9 + 1).toInt = (F 67 9).toInt + 1 := i_1 (by omega)
      refine g_ag1 ⟨⟨a1, by omega⟩, fun _ => ?_, fun z => ⟨fun h8 => ?_, fun _ => hQ _ _ _ (frF_u frF_rf (by decide)) frA_rf hl.1 (by rw [uF_ne (by decide)]; exact a1) (by rw [uF_ne (by decide)]; exact a2)⟩⟩
      · refine g_ag2 ⟨⟨a1, by omega⟩, fun z => ?_, fun _ => hQ _ _ _ (frF_u frF_rf (by decide)) frA_rf hl.1 (by rw [uF_ne (by decide)]; exact a1) (by rw [uF_ne (by decide)]; exact a2)⟩
        have hlt : (F 67 9).toInt < (F 67 10).toInt := hV_lt (fun q => by rw [q] at z; exact absurd (mV_b z).1 (by decide))
        have hb := mV_b z
        have m1 : (F 67 3 - 1).toInt = (F 67 3).toInt - 1 := i_m1 (by omega)
        refine ih.2 _ A k _ ⟨by rw [uF_eq, p1]; omega, by rw [uF_eq, uF_ne (by decide), p1]; omega, by rw [uF_ne (by decide)]; exact a3, a4, a5, by rw [uF_ne (by decide)]; exact a6, by rw [uF_ne (by decide)]; exact a7⟩ (by rw [uF_eq, uF_ne (by decide), p1]; omega) k1 k2 hl hb.1 (by omega) (agQ_tr hQ (frF_u frF_rf (by decide)) frA_rf)
      · have hlt : (F 67 9).toInt < (F 67 10).toInt := hV_c z (by decide)
        have hk : k.toInt < 8 := by
          rcases Int.lt_or_eq_of_le k2 with h | h
          · exact h
          · exact absurd (i8 k h) h8
        have hk1 : (k + 1).toInt = k.toInt + 1 := i_1 (by omega)
        have := hl.1
        refine ⟨⟨k1, by omega⟩, ih.1 _ _ (k + 1) _ ⟨by rw [uF_eq, p1]; omega, by rw [uF_eq, uF_ne (by decide), p1]; omega, by rw [uF_ne (by decide)]; exact a3, a4, a5, by rw [uF_ne (by decide)]; exact a6, by rw [uF_ne (by decide)]; exact a7⟩ (by rw [uF_eq, uF_ne (by decide), p1]; omega) (by omega) (by omega) ?_ (agQ_tr hQ (frF_u frF_rf (by decide)) (frA_u frA_rf (by decide)))⟩
        rw [uA_eq]
        exact lwb_up hl (by omega) hk1 (by omega) (Or.inl rfl)
    refine ⟨p37, ?_⟩
    intro F A k c ⟨a1, a2, a3, a4, a5, a6, a7⟩ hm k1 k2 hl c1 c2 hQ
    have km : 0 < k.toInt → (k - 1).toInt = k.toInt - 1 := fun h => i_m1 (by omega)
    have p1 : (F 67 9 + 1).toInt = (F 67 9).toInt + 1 := i_1 (by omega)
    have h174 : wp_E (d + 5) mm221.2.2.2.2.2.2.2.2 174 [some (.ref 67), some (.int x), some (.int k), some (.int c)] [] (hz F A L) Q := by
      refine g_ag5 ⟨fun z => ?_, fun z => ⟨fun _ => hQ _ F A frF_rf frA_rf hl.1 a1 a2, fun _ => hQ _ _ _ (frF_u frF_rf (by decide)) frA_rf hl.1 (by rw [uF_ne (by decide)]; exact a1) (by rw [uF_ne (by decide)]; exact a2)⟩⟩
      have kp : 0 < k.toInt := by
        rcases Int.lt_or_eq_of_le k1 with h | h
        · exact h
        · exact absurd (i0 k h.symm) z
      have := km kp
      have := hl.1
      refine ⟨⟨by omega, by omega⟩, p37 F _ k _ ⟨a1, a2, a3, a4, a5, a6, a7⟩ hm k1 k2 ?_ (agQ_tr hQ frF_rf (frA_u frA_rf (by decide)))⟩
      rw [uA_eq]
      exact lwb_set hl (by omega) (Or.inr ⟨c1, c2⟩)
    refine g_ag3 ⟨fun _ => h174, fun kp => ?_⟩
    have k3 := km kp
    have l9 := hl.1
    refine ⟨⟨by omega, by omega⟩, fun _ => h174, fun z => ⟨⟨a1, by omega⟩, fun z2 => ⟨⟨by omega, by omega⟩, ?_⟩, fun _ => hQ _ _ _ (frF_u frF_rf (by decide)) frA_rf hl.1 (by rw [uF_ne (by decide)]; exact a1) (by rw [uF_ne (by decide)]; exact a2)⟩⟩
    have hlt : (F 67 9).toInt < (F 67 10).toInt := hV_c z2 (by decide)
    have hw := (hl.2 (k - 1).toInt.toNat (by omega)).resolve_left z
    refine r_wi (d := d) hw ⟨c1, c2⟩ a5 (fun r r1 r2 => ?_)
    refine g_ag4 (ih.2 _ A (k - 1) r ⟨by rw [uF_eq, p1]; omega, by rw [uF_eq, uF_ne (by decide), p1]; omega, by rw [uF_ne (by decide)]; exact a3, a4, a5, by rw [uF_ne (by decide)]; exact a6, by rw [uF_ne (by decide)]; exact a7⟩ (by rw [uF_eq, uF_ne (by decide), p1]; omega) (by omega) (by omega) ⟨hl.1, fun i hi => hl.2 i (by omega)⟩ r1 r2 (agQ_tr hQ (frF_u frF_rf (by decide)) frA_rf))
theorem r_ag {x : Int32} (h68 : (A 68).length = 150) (h71 : (A 71).length = 260) (h91 : (A 91).length = 9) (hm2 : 2 ≤ (F 67 3).toInt) (hm6 : (F 67 3).toInt ≤ 6)
    (hQ : ∀ (r : Int32) (F' : Nat → Nat → Int32) (A' : Nat → List Int32), frF [8, 9, 10, 11] F F' → frA [91] A A' → (A' 91).length = 9 → (F' = F ∨ (F' 67 8 = 0 ∧ (0 ≤ (F' 67 9).toInt ∧ (F' 67 9).toInt ≤ 60) ∧ (0 ≤ (F' 67 10).toInt ∧ (F' 67 10).toInt ≤ 60))) → Q (some (.int r)) (hz F' A' L)) : wp_M (d + 6) 221 [.ref 67, .int x] (hz F A L) Q := by
  have z1 : (1 : Int32).toInt = 1 := rfl
  have z60 : (60 : Int32).toInt = 60 := rfl
  refine q_m (E := mm221) rfl ⟨Nat.le_of_ble_eq_true rfl, Nat.le_of_ble_eq_true rfl⟩ ?_
  refine g_ag0 ⟨fun _ => hQ _ F A frF_rf frA_rf h91 (Or.inl rfl), fun q1 => ⟨fun _ => hQ _ F A frF_rf frA_rf h91 (Or.inl rfl), fun q2 => ⟨fun _ => ?_, fun _ => hQ _ F A frF_rf frA_rf h91 (Or.inl rfl)⟩⟩⟩
  have g9 : uF (uF (uF F 67 9 0) 67 10 x) 67 8 0 67 9 = 0 := by rw [uF_ne (by decide), uF_ne (by decide), uF_eq]
  have g10 : uF (uF (uF F 67 9 0) 67 10 x) 67 8 0 67 10 = x := by rw [uF_ne (by decide), uF_eq]
  have g3 : uF (uF (uF F 67 9 0) 67 10 x) 67 8 0 67 3 = F 67 3 := by rw [uF_ne (by decide), uF_ne (by decide), uF_ne (by decide)]
  refine (r_ag_loop 60).1 _ A 0 none ⟨by rw [g9]; decide, by rw [g9, g10, e0]; omega, by rw [g10]; omega, h71, h68, by rw [g3]; exact hm2, by rw [g3]; exact hm6⟩ (by rw [g9, g10, e0]; omega) (by decide) (by decide) ⟨h91, fun i hi => absurd hi (by rw [e0]; omega)⟩ ?_
  intro r F' A' f1 f2 f3 f4 f5
  refine hQ r F' A' (frF_tr (frF_u (frF_u (frF_u frF_rf (by decide)) (by decide)) (by decide)) f1 (fun _ z => z) (by decide)) f2 f3 (Or.inr ⟨?_, ⟨f4, by rw [g10] at f5; omega⟩, ?_⟩)
  · rw [f1 67 8 (by decide), uF_eq]
  · rw [f1 67 10 (by decide), g10]; omega
end OR
