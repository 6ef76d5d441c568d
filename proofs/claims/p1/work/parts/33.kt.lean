/-! nobody is told: what some calls then answer, whatever else stands in the heap -/
theorem kt_inc {x : Int32} {n : Nat} (hn : n ≤ 12) (h : x.toInt = 12 - ((n + 1 : Nat) : Int)) (h0 : n + 1 ≤ 12) : (x + Int32.ofInt 1).toInt = 12 - (n : Int) := by
  rw [Int32.toInt_add, show (Int32.ofInt 1).toInt = 1 from rfl, an_b32 (by omega) (by omega)]
  omega
theorem kt_lt {x : Int32} {n : Nat} (h : x.toInt = 12 - ((n + 1 : Nat) : Int)) : ¬ sm_c2 .ge x (Int8.ofInt 12).toInt32 = true := fun z => by
  have z : (Int8.ofInt 12).toInt32 ≤ x := of_decide_eq_true z
  have z := Int32.le_iff_toInt_le.mp z
  have e : ((Int8.ofInt 12).toInt32).toInt = 12 := by decide
  omega
theorem kt_ge {x : Int32} (h : x.toInt = 12 - ((0 : Nat) : Int)) : ¬ sm_c2 .ge x (Int8.ofInt 12).toInt32 = false := fun z => by
  have z : ¬ (Int8.ofInt 12).toInt32 ≤ x := of_decide_eq_false z
  have e : ((Int8.ofInt 12).toInt32).toInt = 12 := by decide
  exact z (Int32.le_iff_toInt_le.mpr (by omega))
theorem c_bfL (d : Nat) (hp : sm_H) (m4 : Int32) (fs f6 : List Value) (i j : Int32) (h30 : hp[30]? = some (.inr (6, .ref 3 :: f6))) (h3 : hp[3]? = some (.inr (4, .int m4 :: .int 0 :: fs))) : ∀ (n : Nat) (x : Int32), n ≤ 12 → x.toInt = 12 - (n : Int) → EV (d + 1) mm75.2.2.2.2.2.2.2.2 5 [some (.ref 30), some (.int i), some (.int j), some (.int (Int32.ofInt 0)), some (.int x)] [] hp (some (.int (Int32.ofInt 0))) hp := by
  intro n
  induction n with
  | zero =>
    intro x _ hx
    refine ev_step rfl rfl ?_
    refine ev_step rfl rfl ?_
    refine ev_step rfl rfl ?_
    refine ev_if (fun _ => ?_) (fun h => absurd h (kt_ge hx))
    refine ev_step rfl rfl ?_
    exact ev_ret rfl rfl
  | succ n ih =>
    intro x hn hx
    refine ev_step rfl rfl ?_
    refine ev_step rfl rfl ?_
    refine ev_step rfl rfl ?_
    refine ev_if (fun h => absurd h (kt_lt hx)) (fun _ => ?_)
    refine ev_step rfl rfl ?_
    refine ev_gf rfl h30 rfl ?_
    refine ev_step rfl rfl ?_
    refine ev_cV rfl rfl rfl rfl h3 rfl (c_isTold0 d 3 hp m4 fs x h3) ?_
    refine ev_step rfl rfl ?_
    refine ev_if (fun _ => ?_) (fun h => absurd h (by decide +kernel))
    refine ev_step rfl rfl ?_
    refine ev_step rfl rfl ?_
    exact ih _ (by omega) (kt_inc (by omega) hx hn)
theorem c_bf0 (d : Nat) (hp : sm_H) (m4 : Int32) (fs f6 : List Value) (i j : Int32) (h30 : hp[30]? = some (.inr (6, .ref 3 :: f6))) (h3 : hp[3]? = some (.inr (4, .int m4 :: .int 0 :: fs))) : EM (d + 2) 75 [.ref 30, .int i, .int j] hp (some (.int 0)) hp := by
  refine em_in (E := mm75) rfl ⟨Nat.le_of_ble_eq_true rfl, Nat.le_of_ble_eq_true rfl⟩ ?_
  iterate 4 (refine ev_step rfl rfl ?_)
  exact c_bfL d hp m4 fs f6 i j h30 h3 12 _ (by omega) (by decide)
theorem m_poL (d : Nat) (hp : sm_H) (fs : List Value) (l : List Int32) (i j : Int32) (hk : hp[67]? = some (.inr (8, .ref 68 :: fs))) (hl : hp[68]? = some (.inl (0, .inl l))) (ht : l[144]? = some 0) : ∀ (n : Nat) (x : Int32), n ≤ 12 → x.toInt = 12 - (n : Int) → EV (d + 2) mm203.2.2.2.2.2.2.2.2 5 [some (.ref 67), some (.int i), some (.int j), some (.int (Int32.ofInt 0)), some (.int x)] [] hp (some (.int (Int32.ofInt 0))) hp := by
  intro n
  induction n with
  | zero =>
    intro x _ hx
    refine ev_step rfl rfl ?_
    refine ev_step rfl rfl ?_
    refine ev_step rfl rfl ?_
    refine ev_if (fun _ => ?_) (fun h => absurd h (kt_ge hx))
    refine ev_step rfl rfl ?_
    exact ev_ret rfl rfl
  | succ n ih =>
    intro x hn hx
    refine ev_step rfl rfl ?_
    refine ev_step rfl rfl ?_
    refine ev_step rfl rfl ?_
    refine ev_if (fun h => absurd h (kt_lt hx)) (fun _ => ?_)
    refine ev_step rfl rfl ?_
    refine ev_step rfl rfl ?_
    refine ev_cV rfl rfl rfl rfl hk rfl (m_isGuest0 d hp fs l x hk hl ht) ?_
    refine ev_step rfl rfl ?_
    refine ev_if (fun _ => ?_) (fun h => absurd h (by decide +kernel))
    refine ev_step rfl rfl ?_
    refine ev_step rfl rfl ?_
    exact ih _ (by omega) (kt_inc (by omega) hx hn)
theorem m_po0 (d : Nat) (hp : sm_H) (fs : List Value) (l : List Int32) (i j : Int32) (hk : hp[67]? = some (.inr (8, .ref 68 :: fs))) (hl : hp[68]? = some (.inl (0, .inl l))) (ht : l[144]? = some 0) : EM (d + 3) 203 [.ref 67, .int i, .int j] hp (some (.int 0)) hp := by
  refine em_in (E := mm203) rfl ⟨Nat.le_of_ble_eq_true rfl, Nat.le_of_ble_eq_true rfl⟩ ?_
  iterate 4 (refine ev_step rfl rfl ?_)
  exact m_poL d hp fs l i j hk hl ht 12 _ (by omega) (by decide)
def kt_tab (c : Option an_C) : Bool := match c with
  | some (.inr o) => Nat.beq o.1 4 && (match o.2 with
    | .inl _ :: .inl (none, c) :: _ => ieq c 0
    | _ => false)
  | _ => false
def kt_vot (c : Option an_C) : Bool := match c with
  | some (.inr o) => Nat.beq o.1 6 && (match o.2 with
    | .inr (.inl k) :: _ => Nat.beq k 3
    | _ => false)
  | _ => false
def kt_mo (c c' : Option an_C) : Bool := match c, c' with
  | some (.inr o), some (.inl g) => Nat.beq o.1 8 && (match o.2 with
    | .inr (.inl k) :: _ => Nat.beq k 68
    | _ => false) && Nat.beq g.1 0 && (match an_at g.2 144 with
    | some b => ieq b.1 0 && ieq b.2 0
    | none => false)
  | _, _ => false
def kt_mod (H : an_H) : Bool := kt_mo H[67]? H[68]?
section KT
variable {ρ : List Int} {h0 hp : sm_H} {Z : an_Z}
theorem kt_tab_ok {k : Nat} (hZ : an_rZ ρ Z h0 hp) (h : kt_tab Z.2.1[k]? = true) : ∃ (m4 : Int32) (fs : List Value), hp[k]? = some (.inr (4, .int m4 :: .int 0 :: fs)) := by
  unfold kt_tab at h
  split at h
  · rename_i o ho
    rw [Bool.and_eq_true, Nat.beq_eq] at h
    obtain ⟨h1, h2⟩ := h
    split at h2
    · rename_i a c t he
      rw [ieq_iff] at h2
      obtain ⟨d, hd, hc⟩ := an_rH_get hZ.2.1 ho
      match d, hc with
      | .inr (p1, p2), hc =>
        obtain ⟨g1, g2⟩ := hc
        rw [he] at g2
        match p2, g2 with
        | v :: w :: u, g2 =>
          obtain ⟨x, rfl⟩ := an_isint g2.1
          obtain ⟨y, rfl, hy⟩ := g2.2.1
          have : y = 0 := Int32.toInt_inj.mp (by rw [hy, h2]; rfl)
          subst this
          have g1 : o.1 = p1 := g1
          rw [h1] at g1
          subst g1
          exact ⟨x, u, hd⟩
        | [], g2 => exact g2.elim
        | [_], g2 => exact g2.2.elim
      | .inl (_, .inl _), hc => exact hc.elim
      | .inl (_, .inr _), hc => exact hc.elim
    · cases h2
  · cases h
theorem kt_vot_ok {k : Nat} (hZ : an_rZ ρ Z h0 hp) (h : kt_vot Z.2.1[k]? = true) : ∃ fs : List Value, hp[k]? = some (.inr (6, .ref 3 :: fs)) := by
  unfold kt_vot at h
  split at h
  · rename_i o ho
    rw [Bool.and_eq_true, Nat.beq_eq] at h
    obtain ⟨h1, h2⟩ := h
    split at h2
    · rename_i r t he
      rw [Nat.beq_eq] at h2
      obtain ⟨d, hd, hc⟩ := an_rH_get hZ.2.1 ho
      match d, hc with
      | .inr (p1, p2), hc =>
        obtain ⟨g1, g2⟩ := hc
        rw [he] at g2
        match p2, g2 with
        | v :: u, g2 =>
          have e : v = .ref r := g2.1
          rw [h2] at e
          subst e
          have g1 : o.1 = p1 := g1
          rw [h1] at g1
          subst g1
          exact ⟨u, hd⟩
        | [], g2 => exact g2.elim
      | .inl (_, .inl _), hc => exact hc.elim
      | .inl (_, .inr _), hc => exact hc.elim
    · cases h2
  · cases h
theorem kt_mod_ok (hZ : an_rZ ρ Z h0 hp) (h : kt_mod Z.2.1 = true) : ∃ (fs : List Value) (l : List Int32), hp[67]? = some (.inr (8, .ref 68 :: fs)) ∧ hp[68]? = some (.inl (0, .inl l)) ∧ l[144]? = some 0 := by
  unfold kt_mod kt_mo at h
  split at h
  · rename_i o g ho hg
    rw [Bool.and_eq_true, Bool.and_eq_true, Bool.and_eq_true, Nat.beq_eq, Nat.beq_eq] at h
    obtain ⟨⟨⟨h1, h2⟩, h3⟩, h4⟩ := h
    split at h2
    · rename_i r t he
      rw [Nat.beq_eq] at h2
      split at h4
      · rename_i b hb
        rw [Bool.and_eq_true, ieq_iff, ieq_iff] at h4
        obtain ⟨d, hd, hc⟩ := an_rH_get hZ.2.1 ho
        obtain ⟨d', hd', hc'⟩ := an_rH_get hZ.2.1 hg
        match d, hc with
        | .inr (p1, p2), hc =>
          obtain ⟨g1, g2⟩ := hc
          rw [he] at g2
          match p2, g2 with
          | v :: u, g2 =>
            have e : v = .ref r := g2.1
            rw [h2] at e
            subst e
            have g1 : o.1 = p1 := g1
            rw [h1] at g1
            subst g1
            match d', hc' with
            | .inl (kk, .inl l), hc' =>
              obtain ⟨c1, c2, c3⟩ := hc'
              have c1 : g.1 = kk := c1
              rw [h3] at c1
              subst c1
              have hlt : 144 < l.length := by rw [c3.1]; exact an_at_lt _ _ _ hb
              have hy := List.getElem?_eq_getElem hlt
              have hb2 := c3.2 _ _ _ hy hb
              refine ⟨u, l, hd, hd', ?_⟩
              rw [hy]
              exact congrArg some (Int32.toInt_inj.mp (by rw [show (0 : Int32).toInt = 0 from rfl]; omega))
            | .inl (kk, .inr l), hc' => exact absurd (show (0 : Nat) = 1 by rw [← h3, hc'.1]; exact hc'.2.1) (by decide)
            | .inr _, hc' => exact hc'.elim
          | [], g2 => exact g2.elim
        | .inl (_, .inl _), hc => exact hc.elim
        | .inl (_, .inr _), hc => exact hc.elim
      · cases h4
    · cases h2
  · cases h
end KT
def kt_sel (μ : Nat) : Bool := Nat.beq μ 14 || (Nat.beq μ 145 || (Nat.beq μ 75 || Nat.beq μ 203))
def kt_K : an_KT := fun μ as Z => match as with
  | [.inr (.inl k), .inl _] => cond (Nat.beq μ 14) (cond (kt_tab Z.2.1[k]?) (some [(some (an_c 0), Z)]) none) (cond (Nat.beq μ 145 && Nat.beq k 67 && kt_mod Z.2.1) (some [(some (an_c 0), Z)]) none)
  | [.inr (.inl k), .inl _, .inl _] => cond (Nat.beq μ 75) (cond (Nat.beq k 30 && kt_vot Z.2.1[30]? && kt_tab Z.2.1[3]?) (some [(some (an_c 0), Z)]) none) (cond (Nat.beq μ 203 && Nat.beq k 67 && kt_mod Z.2.1) (some [(some (an_c 0), Z)]) none)
  | _ => none
theorem kt_fin {d μ : Nat} {vs : List Value} {Z : an_Z} {Es : List an_E} {ρ : List Int} {h0 hp : sm_H} (h : some [(some (an_c 0), Z)] = some Es) (hZ : an_rZ ρ Z h0 hp) (hm : EM d μ vs hp (some (.int 0)) hp) : ∃ v hp', EM d μ vs hp v hp' ∧ ∃ E ∈ Es, ∃ e : List Int, an_rr (ρ ++ e) E.1 v ∧ an_rZ (ρ ++ e) E.2 h0 hp' := by
  cases h
  refine ⟨_, _, hm, _, List.mem_singleton.mpr rfl, [], ?_, by simpa using hZ⟩
  exact ⟨⟨0, rfl, rfl⟩, trivial⟩
theorem kt_K_ok (d : Nat) : an_KO (d + 3) kt_K := fun μ as Z Es ρ h0 hp vs h hF hZ => by
  unfold kt_K at h
  split at h
  · rename_i k a
    match vs, hF with
    | [v1, v2], hF =>
      obtain ⟨e1, e2, -⟩ := hF
      have e1 : v1 = .ref k := e1
      subst e1
      obtain ⟨x, rfl⟩ := an_isint e2
      cases hb : Nat.beq μ 14 with
      | true =>
        rw [hb] at h
        rw [Nat.beq_eq] at hb
        subst hb
        cases ht : kt_tab Z.2.1[k]? with
        | false => rw [ht] at h; cases h
        | true =>
          rw [ht] at h
          obtain ⟨m4, fs, hk⟩ := kt_tab_ok hZ ht
          exact kt_fin h hZ (em_up (c_isTold0 d k hp m4 fs x hk) (by omega))
      | false =>
        rw [hb] at h
        dsimp only [cond_false] at h
        cases ht : (Nat.beq μ 145 && Nat.beq k 67 && kt_mod Z.2.1) with
        | false => rw [ht] at h; cases h
        | true =>
          rw [ht] at h
          rw [Bool.and_eq_true, Bool.and_eq_true, Nat.beq_eq, Nat.beq_eq] at ht
          obtain ⟨⟨rfl, rfl⟩, ht⟩ := ht
          obtain ⟨fs, l, g1, g2, g3⟩ := kt_mod_ok hZ ht
          exact kt_fin h hZ (em_up (m_isGuest0 d hp fs l x g1 g2 g3) (by omega))
    | [], hF => exact hF.elim
    | [_], hF => exact hF.2.elim
    | _ :: _ :: _ :: _, hF => exact hF.2.2.elim
  · rename_i k a b
    match vs, hF with
    | [v1, v2, v3], hF =>
      obtain ⟨e1, e2, e3, -⟩ := hF
      have e1 : v1 = .ref k := e1
      subst e1
      obtain ⟨x, rfl⟩ := an_isint e2
      obtain ⟨y, rfl⟩ := an_isint e3
      cases hb : Nat.beq μ 75 with
      | true =>
        rw [hb] at h
        rw [Nat.beq_eq] at hb
        subst hb
        dsimp only [cond_true] at h
        cases ht : (Nat.beq k 30 && kt_vot Z.2.1[30]? && kt_tab Z.2.1[3]?) with
        | false => rw [ht] at h; cases h
        | true =>
          rw [ht] at h
          rw [Bool.and_eq_true, Bool.and_eq_true, Nat.beq_eq] at ht
          obtain ⟨⟨rfl, t1⟩, t2⟩ := ht
          obtain ⟨f6, g1⟩ := kt_vot_ok hZ t1
          obtain ⟨m4, fs, g2⟩ := kt_tab_ok hZ t2
          exact kt_fin h hZ (em_up (c_bf0 d hp m4 fs f6 x y g1 g2) (by omega))
      | false =>
        rw [hb] at h
        dsimp only [cond_false] at h
        cases ht : (Nat.beq μ 203 && Nat.beq k 67 && kt_mod Z.2.1) with
        | false => rw [ht] at h; cases h
        | true =>
          rw [ht] at h
          rw [Bool.and_eq_true, Bool.and_eq_true, Nat.beq_eq, Nat.beq_eq] at ht
          obtain ⟨⟨rfl, rfl⟩, ht⟩ := ht
          obtain ⟨fs, l, g1, g2, g3⟩ := kt_mod_ok hZ ht
          exact kt_fin h hZ (m_po0 d hp fs l x y g1 g2 g3)
    | [], hF => exact hF.elim
    | [_], hF => exact hF.2.elim
    | [_, _], hF => exact hF.2.2.elim
    | _ :: _ :: _ :: _ :: _, hF => exact hF.2.2.2.elim
  · cases h
