/-! codes at work: they run, and end -/
section CT
variable {d : Nat} {F : Nat → Nat → Int32} {A : Nat → List Int32} {L : Nat → List Int64} {Q : Option Value → sm_H → Prop}
theorem r_reckon {o x y : Int32} (hne : (o.toInt = 5 ∨ o.toInt = 6) → ¬ y = 0) (hQ : ∀ r : Int32, Q (some (.int r)) (hz F A L)) : wp_M (d + 1) 182 [.int o, .int x, .int y] (hz F A L) Q := by
  refine q_m (E := mm182) rfl ⟨Nat.le_of_ble_eq_true rfl, Nat.le_of_ble_eq_true rfl⟩ ?_
  show wp_E (d + 0) mm182.2.2.2.2.2.2.2.2 0 [some (.int o), some (.int x), some (.int y)] [] (hz F A L) Q
  refine q_n 1 (pc1 := 1) (ls1 := [some (.int o), some (.int x), some (.int y)]) (st1 := [.int o]) (hp1 := hz F A L) rfl ?_
  by_cases hr : o.toInt < 2 ∨ 8 < o.toInt
  · refine q_s (pc1 := 86) (ls1 := [some (.int o), some (.int x), some (.int y)]) (st1 := []) (hp1 := hz F A L) rfl (show sm_tsw [.int o] 85 2 8 _ _ _ _ = _ by unfold sm_tsw; dsimp only; rw [if_pos hr]; rfl) ?_
    refine q_n 2 (pc1 := 88) (ls1 := [some (.int o), some (.int x), some (.int y)]) (st1 := [.int y, .int x]) (hp1 := hz F A L) rfl ?_
    refine q_ne (p3 := 91) rfl rfl (fun _ => ?_) (fun _ => ?_)
    · refine q_n 1 (pc1 := 96) (ls1 := [some (.int o), some (.int x), some (.int y)]) (st1 := [.int 0]) (hp1 := hz F A L) rfl ?_
      exact q_ri rfl (hQ _)
    · refine q_n 2 (pc1 := 96) (ls1 := [some (.int o), some (.int x), some (.int y)]) (st1 := [.int 1]) (hp1 := hz F A L) rfl ?_
      exact q_ri rfl (hQ _)
  · have hc : o.toInt = 2 ∨ o.toInt = 3 ∨ o.toInt = 4 ∨ o.toInt = 5 ∨ o.toInt = 6 ∨ o.toInt = 7 ∨ o.toInt = 8 := by omega
    rcases hc with z | z | z | z | z | z | z
    · have z : o = 2 := Int32.toInt_inj.mp z
      subst z
      refine q_s (pc1 := 44) (ls1 := [some (.int 2), some (.int x), some (.int y)]) (st1 := []) (hp1 := hz F A L) rfl rfl ?_
      refine q_n 3 (pc1 := 47) (ls1 := [some (.int 2), some (.int x), some (.int y)]) (st1 := [.int (x + y)]) (hp1 := hz F A L) rfl ?_
      exact q_ri rfl (hQ _)
    · have z : o = 3 := Int32.toInt_inj.mp z
      subst z
      refine q_s (pc1 := 48) (ls1 := [some (.int 3), some (.int x), some (.int y)]) (st1 := []) (hp1 := hz F A L) rfl rfl ?_
      refine q_n 3 (pc1 := 51) (ls1 := [some (.int 3), some (.int x), some (.int y)]) (st1 := [.int (x - y)]) (hp1 := hz F A L) rfl ?_
      exact q_ri rfl (hQ _)
    · have z : o = 4 := Int32.toInt_inj.mp z
      subst z
      refine q_s (pc1 := 52) (ls1 := [some (.int 4), some (.int x), some (.int y)]) (st1 := []) (hp1 := hz F A L) rfl rfl ?_
      refine q_n 3 (pc1 := 55) (ls1 := [some (.int 4), some (.int x), some (.int y)]) (st1 := [.int (x * y)]) (hp1 := hz F A L) rfl ?_
      exact q_ri rfl (hQ _)
    · have z : o = 5 := Int32.toInt_inj.mp z
      subst z
      refine q_s (pc1 := 56) (ls1 := [some (.int 5), some (.int x), some (.int y)]) (st1 := []) (hp1 := hz F A L) rfl rfl ?_
      refine q_n 2 (pc1 := 58) (ls1 := [some (.int 5), some (.int x), some (.int y)]) (st1 := [.int y, .int x]) (hp1 := hz F A L) rfl ?_
      refine q_dv (p1 := 59) rfl rfl (hne (by decide)) ?_
      exact q_ri rfl (hQ _)
    · have z : o = 6 := Int32.toInt_inj.mp z
      subst z
      refine q_s (pc1 := 60) (ls1 := [some (.int 6), some (.int x), some (.int y)]) (st1 := []) (hp1 := hz F A L) rfl rfl ?_
      refine q_n 2 (pc1 := 62) (ls1 := [some (.int 6), some (.int x), some (.int y)]) (st1 := [.int y, .int x]) (hp1 := hz F A L) rfl ?_
      refine q_rm (p1 := 63) rfl rfl (hne (by decide)) ?_
      exact q_ri rfl (hQ _)
    · have z : o = 7 := Int32.toInt_inj.mp z
      subst z
      refine q_s (pc1 := 64) (ls1 := [some (.int 7), some (.int x), some (.int y)]) (st1 := []) (hp1 := hz F A L) rfl rfl ?_
      refine q_n 2 (pc1 := 66) (ls1 := [some (.int 7), some (.int x), some (.int y)]) (st1 := [.int y, .int x]) (hp1 := hz F A L) rfl ?_
      refine q_ge (p3 := 69) rfl rfl (fun _ => ?_) (fun _ => ?_)
      · refine q_n 1 (pc1 := 74) (ls1 := [some (.int 7), some (.int x), some (.int y)]) (st1 := [.int 0]) (hp1 := hz F A L) rfl ?_
        exact q_ri rfl (hQ _)
      · refine q_n 2 (pc1 := 74) (ls1 := [some (.int 7), some (.int x), some (.int y)]) (st1 := [.int 1]) (hp1 := hz F A L) rfl ?_
        exact q_ri rfl (hQ _)
    · have z : o = 8 := Int32.toInt_inj.mp z
      subst z
      refine q_s (pc1 := 75) (ls1 := [some (.int 8), some (.int x), some (.int y)]) (st1 := []) (hp1 := hz F A L) rfl rfl ?_
      refine q_n 2 (pc1 := 77) (ls1 := [some (.int 8), some (.int x), some (.int y)]) (st1 := [.int y, .int x]) (hp1 := hz F A L) rfl ?_
      refine q_le (p3 := 80) rfl rfl (fun _ => ?_) (fun _ => ?_)
      · refine q_n 1 (pc1 := 85) (ls1 := [some (.int 8), some (.int x), some (.int y)]) (st1 := [.int 0]) (hp1 := hz F A L) rfl ?_
        exact q_ri rfl (hQ _)
      · refine q_n 2 (pc1 := 85) (ls1 := [some (.int 8), some (.int x), some (.int y)]) (st1 := [.int 1]) (hp1 := hz F A L) rfl ?_
        exact q_ri rfl (hQ _)
/-- the stack is never higher than the place -/
theorem dep_le {l : List Int32} {a b : Nat} {dep : Nat → Nat} (h0 : dep a = 0) (h : ∀ k, a ≤ k → k < b → cw_at l b dep k) : ∀ k, a ≤ k → k ≤ b → dep k ≤ k - a := by
  intro k
  induction k with
  | zero => intro h1 h2; obtain rfl : a = 0 := by omega
            omega
  | succ k ih =>
    intro h1 h2
    by_cases e : a = k + 1
    · rw [← e, h0]; omega
    · have i := ih (by omega) (by omega)
      obtain ⟨c, -, z⟩ := h k (by omega) (by omega)
      rcases z with z | z | z | z | z
      · omega
      · omega
      · omega
      · omega
      · omega
theorem r_ct_loop {x y z : Int32} {a b : Nat} {dep : Nat → Nat} (hb : b ≤ 260) (hy : y.toInt = (b : Int)) (hz0 : a < b → z = 0) (h0 : dep a = 0) (h : ∀ k, a ≤ k → k < b → cw_at (A 78) b dep k) (h78 : (A 78).length = 260) (h84 : (A 84).length = 8)
    (hQ : ∀ (r : Int32) (A' : Nat → List Int32), frA [83] A A' → (A' 83).length = 260 → Q (some (.int r)) (hz F A' L)) :
    ∀ (m : Nat) (j : Nat) (A1 : Nat → List Int32) (n k : Int32) (u v : Option Value), b - j ≤ m → a ≤ j → j ≤ b → k.toInt = (j : Int) → n.toInt = (dep j : Int) → frA [83] A A1 → (A1 83).length = 260 →
    wp_E (d + 1) mm181.2.2.2.2.2.2.2.2 16 [some (.ref 67), some (.int x), some (.int y), some (.int n), some (.int z), some (.int k), u, v] [] (hz F A1 L) Q := by
  have hdl := dep_le h0 h
  intro m
  induction m with
  | zero =>
    intro j A1 n k u v hm ha hj hk hn hf hS
    refine g_ct1 ⟨fun _ => ⟨⟨by decide, by rw [hS]; decide⟩, hQ _ A1 hf hS⟩, fun q => absurd q (by omega)⟩
  | succ m ih =>
    intro j A1 n k u v hm ha hj hk hn hf hS
    have e78 : A1 78 = A 78 := hf 78 (by decide)
    have e84 : A1 84 = A 84 := hf 84 (by decide)
    refine g_ct1 ⟨fun _ => ⟨⟨by decide, by rw [hS]; decide⟩, hQ _ A1 hf hS⟩, fun q => ?_⟩
    have hjb : j < b := by omega
    have hz0 := hz0 (by omega)
    have hs : 0 ≤ k.toInt ∧ k.toInt < ((A1 78).length : Int) := by rw [e78]; omega
    refine ⟨hs, hs, ?_⟩
    have hd := hdl j ha hj
    obtain ⟨c, hc, hcase⟩ := h j ha hjb
    have ec : (A1 78).getD k.toInt.toNat 0 = c := by rw [e78, show k.toInt.toNat = j by omega, List.getD_eq_getElem?_getD, hc]; rfl
    rw [ec]
    have ho : (c / 1048576).toInt = kop c := kdiv c
    have hv : (c - c / 1048576 * 1048576).toInt = kvl c := krem c
    generalize c - c / 1048576 * 1048576 = w at hv ⊢
    generalize c / 1048576 = o at ho ⊢
    have k1 : (k + 1).toInt = ((j + 1 : Nat) : Int) := by rw [i_1 (by omega), hk]; omega
    have n1 : (n + 1).toInt = (dep j : Int) + 1 := by rw [i_1 (by omega), hn]
    have nm : (n - 1).toInt = (dep j : Int) - 1 := by rw [i_m1 (by omega), hn]
    have hcase : ((kop c = 0 ∧ dep (j + 1) = dep j + 1) ∨ (kop c = 1 ∧ 0 ≤ kvl c ∧ kvl c < 8 ∧ dep (j + 1) = dep j + 1) ∨ (kop c = 10 ∧ 1 ≤ dep j ∧ dep (j + 1) = dep j) ∨ ((kop c = 11 ∨ kop c = 12) ∧ 1 ≤ dep j ∧ dep (j + 1) + 1 = dep j ∧ (j : Int) < kvl c ∧ kvl c ≤ (b : Int) ∧ dep (kvl c).toNat = dep j) ∨ (2 ≤ kop c ∧ kop c ≤ 9 ∧ 2 ≤ dep j ∧ dep (j + 1) + 1 = dep j)) := hcase
    have oe : ∀ q : Int32, o = q ↔ o.toInt = q.toInt := fun q => ie
    have setok : ∀ (i : Nat) (s : Int32), frA [83] A (uA A1 83 ((A1 83).set i s)) ∧ ((uA A1 83 ((A1 83).set i s)) 83).length = 260 := fun i s => ⟨frA_u hf (by decide), by show ((A1 83).set i s).length = 260; rw [List.length_set]; exact hS⟩
    have push : dep (j + 1) = dep j + 1 → ∀ (i : Nat) (s : Int32), wp_E (d + 1) mm181.2.2.2.2.2.2.2.2 16 [some (.ref 67), some (.int x), some (.int y), some (.int (n + 1)), some (.int z), some (.int (k + 1)), some (.int o), some (.int w)] [] (hz F (uA A1 83 ((A1 83).set i s)) L) Q := fun e i s => ih (j + 1) _ (n + 1) (k + 1) _ _ (by omega) (by omega) (by omega) k1 (by rw [n1]; omega) (setok i s).1 (setok i s).2
    have jmp : (kop c = 11 ∨ kop c = 12) → (0 ≤ (n - 1).toInt ∧ (n - 1).toInt < ((A1 83).length : Int)) ∧ (wp_E (d + 1) mm181.2.2.2.2.2.2.2.2 16 [some (.ref 67), some (.int x), some (.int y), some (.int (n - 1)), some (.int z), some (.int (k + 1)), some (.int o), some (.int w)] [] (hz F A1 L) Q) ∧ (wp_E (d + 1) mm181.2.2.2.2.2.2.2.2 16 [some (.ref 67), some (.int x), some (.int y), some (.int n), some (.int z), some (.int (z + w)), some (.int o), some (.int w)] [] (hz F A1 L) Q) := by
      intro hop
      have hc4 : 1 ≤ dep j ∧ dep (j + 1) + 1 = dep j ∧ (j : Int) < kvl c ∧ kvl c ≤ (b : Int) ∧ dep (kvl c).toNat = dep j := by
        rcases hcase with q | q | q | q | q
        · omega
        · omega
        · omega
        · exact q.2
        · omega
      obtain ⟨c1, c2, c3, c4, c5⟩ := hc4
      refine ⟨⟨by omega, by omega⟩, ih (j + 1) A1 (n - 1) (k + 1) _ _ (by omega) (by omega) (by omega) k1 (by rw [nm]; omega) hf hS, ?_⟩
      have zw : (z + w).toInt = ((kvl c).toNat : Int) := by
        rw [hz0, ia (by rw [e0, hv]; omega) (by rw [e0, hv]; omega), e0, hv]
        omega
      exact ih (kvl c).toNat A1 n (z + w) _ _ (by omega) (by omega) (by omega) zw (by rw [hn, c5]) hf hS
    have bin : 2 ≤ kop c ∧ kop c ≤ 9 → 2 ≤ dep j ∧ dep (j + 1) + 1 = dep j := by
      intro hop
      rcases hcase with q | q | q | q | q
      · omega
      · omega
      · omega
      · omega
      · exact q.2.2
    have rek : 2 ≤ kop c ∧ kop c ≤ 9 → ((o.toInt = 5 ∨ o.toInt = 6) → ¬ (A1 83).getD (n - 1).toInt.toNat 0 = 0) → (0 ≤ ((n - 1) - 1).toInt ∧ ((n - 1) - 1).toInt < ((A1 83).length : Int)) ∧ ((0 ≤ (n - 1).toInt ∧ (n - 1).toInt < ((A1 83).length : Int)) ∧ (wp_M (d + 1) 182 [.int o, .int ((A1 83).getD ((n - 1) - 1).toInt.toNat 0), .int ((A1 83).getD (n - 1).toInt.toNat 0)] (hz F A1 L) (fun w' hp1 => wp_E (d + 1) mm181.2.2.2.2.2.2.2.2 229 [some (.ref 67), some (.int x), some (.int y), some (.int (n - 1)), some (.int z), some (.int (k + 1)), some (.int o), some (.int w)] (w'.toList ++ [.int ((n - 1) - 1), .ref 83]) hp1 Q))) := by
      intro hop hne
      obtain ⟨b1, b2⟩ := bin hop
      have nm2 : ((n - 1) - 1).toInt = (dep j : Int) - 2 := by rw [i_m1 (by omega), nm]; omega
      refine ⟨⟨by omega, by omega⟩, ⟨by omega, by omega⟩, r_reckon hne (fun r => ?_)⟩
      show wp_E (d + 1) mm181.2.2.2.2.2.2.2.2 229 [some (.ref 67), some (.int x), some (.int y), some (.int (n - 1)), some (.int z), some (.int (k + 1)), some (.int o), some (.int w)] [.int r, .int ((n - 1) - 1), .ref 83] (hz F A1 L) Q
      refine g_ct2 ⟨⟨by omega, by omega⟩, ?_⟩
      exact ih (j + 1) _ (n - 1) (k + 1) _ _ (by omega) (by omega) (by omega) k1 (by rw [nm]; omega) (setok _ _).1 (setok _ _).2
    have hn0 : 0 ≤ n.toInt ∧ n.toInt < ((A1 83).length : Int) := ⟨by omega, by omega⟩
    have z0 : (0 : Int32).toInt = 0 := rfl
    have z1 : (1 : Int32).toInt = 1 := rfl
    have z10 : (10 : Int32).toInt = 10 := rfl
    have z11 : (11 : Int32).toInt = 11 := rfl
    have z12 : (12 : Int32).toInt = 12 := rfl
    have z5 : (5 : Int32).toInt = 5 := rfl
    have z6 : (6 : Int32).toInt = 6 := rfl
    refine g_ct3 ⟨fun q => ⟨fun q' => absurd q q', fun _ => ⟨hn0, ?_⟩⟩, fun q => ⟨fun q1 => ⟨fun q10 => ⟨fun q11 => ?_, fun q11 => ⟨fun q12 => ?_, fun q12 => ?_⟩⟩, fun q10 => ?_⟩, fun q1 => ⟨fun _ => ?_, fun q' => absurd q' q⟩⟩⟩
    · rw [oe, z0, ho] at q
      refine push ?_ _ _
      rcases hcase with y | y | y | y | y <;> omega
    · rw [oe, z11, ho] at q11
      obtain ⟨j1, j2, j3⟩ := jmp (Or.inl q11)
      exact ⟨j1, fun _ => ⟨fun _ => j2, fun _ => j3⟩, fun _ => ⟨fun _ => j2, fun _ => j3⟩⟩
    · rw [oe, z0, ho] at q
      rw [oe, z1, ho] at q1
      rw [oe, z10, ho] at q10
      rw [oe, z11, ho] at q11
      rw [oe, z12, ho] at q12
      have hop : 2 ≤ kop c ∧ kop c ≤ 9 := by rcases hcase with y | y | y | y | y <;> omega
      obtain ⟨b1, b2⟩ := bin hop
      have hm1 : 0 ≤ (n - 1).toInt ∧ (n - 1).toInt < ((A1 83).length : Int) := ⟨by omega, by omega⟩
      refine ⟨fun _ => ⟨hm1, fun y => rek hop (fun _ => y), fun _ => hQ 0 A1 hf hS⟩, fun q5 => ⟨fun q6 => rek hop (fun y => ?_), fun _ => ⟨hm1, fun y => rek hop (fun _ => y), fun _ => hQ 0 A1 hf hS⟩⟩⟩
      rw [oe, z5] at q5
      rw [oe, z6] at q6
      omega
    · rw [oe, z12, ho] at q12
      obtain ⟨j1, j2, j3⟩ := jmp (Or.inr q12)
      exact ⟨j1, fun _ => ⟨fun _ => j2, fun _ => j3⟩, fun _ => ⟨fun _ => j2, fun _ => j3⟩⟩
    · rw [oe, z10, ho] at q10
      have h10 : 1 ≤ dep j ∧ dep (j + 1) = dep j := by rcases hcase with y | y | y | y | y <;> omega
      refine ⟨⟨by omega, by omega⟩, ⟨by omega, by omega⟩, ?_⟩
      exact ih (j + 1) _ n (k + 1) _ _ (by omega) (by omega) (by omega) k1 (by rw [hn]; omega) (setok _ _).1 (setok _ _).2
    · rw [oe, z1, ho] at q1
      have h11 : 0 ≤ kvl c ∧ kvl c < 8 ∧ dep (j + 1) = dep j + 1 := by rcases hcase with y | y | y | y | y <;> omega
      exact ⟨⟨by omega, by rw [e84]; omega⟩, hn0, push h11.2.2 _ _⟩
theorem r_ct {x y : Int32} {a b : Nat} (hx : x = nI a) (hy : y = nI b) (hs : cw_seg (A 78) a b) (h78 : (A 78).length = 260) (h83 : (A 83).length = 260) (h84 : (A 84).length = 8) (hQ : ∀ (r : Int32) (A' : Nat → List Int32), frA [83] A A' → (A' 83).length = 260 → Q (some (.int r)) (hz F A' L)) : wp_M (d + 2) 181 [.ref 67, .int x, .int y] (hz F A L) Q := by
  obtain ⟨h1, h2, dep, h3, h4, h5⟩ := hs
  refine q_m (E := mm181) rfl ⟨Nat.le_of_ble_eq_true rfl, Nat.le_of_ble_eq_true rfl⟩ ?_
  refine g_ct0 ?_
  have ex : x.toInt = (a : Int) := by rw [hx]; exact nI_toInt (by omega)
  have ey : y.toInt = (b : Int) := by rw [hy]; exact nI_toInt (by omega)
  refine r_ct_loop (a := a) (b := b) (dep := dep) h2 ey (fun hab => ?_) h3 h5 h78 h84 hQ (b - a) a A 0 x _ _ (Nat.le_refl _) (Nat.le_refl _) h1 ex (by rw [h3]; rfl) frA_rf h83
  have e260 : (260 : Int32).toInt = 260 := rfl
  have d0 : x / 260 = 0 := by
    rw [ie, an_div32 (by decide), e260, ex, e0, Int.tdiv_eq_ediv_of_nonneg (by omega)]
    omega
  rw [d0]
  rfl
end CT
