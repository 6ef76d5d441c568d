/-! bounds made narrower at a field; contracts at a run that is given -/
def iv_nF (b : Int × Int) : Nat → List (Nat ⊕ (Int × Int)) → List (Nat ⊕ (Int × Int))
  | _, [] => []
  | 0, .inr _ :: t => .inr b :: t
  | 0, .inl r :: t => .inl r :: t
  | j + 1, f :: t => f :: iv_nF b j t
def iv_n1 (j : Nat) (b : Int × Int) (c : iv_C) : iv_C := match c with
  | .inr o => .inr (o.1, iv_nF b j o.2)
  | .inl a => .inl a
def iv_nar (j : Nat) (b : Int × Int) : Nat → List iv_C → List iv_C
  | _, [] => []
  | 0, c :: t => iv_n1 j b c :: t
  | k + 1, c :: t => c :: iv_nar j b k t
theorem iv_nF_ok {b : Int × Int} : ∀ (j : Nat) (fs : List (Nat ⊕ (Int × Int))) (vs : List Value), ivF fs vs → (∀ x : Int32, vs[j]? = some (.int x) → b.1 ≤ x.toInt ∧ x.toInt ≤ b.2) → ivF (iv_nF b j fs) vs
  | 0, [], _, h, _ => h
  | _ + 1, [], _, h, _ => h
  | 0, .inr _ :: t, v :: u, h, hb => by
    obtain ⟨x, rfl, -⟩ := h.1
    exact ⟨⟨x, rfl, hb x rfl⟩, h.2⟩
  | 0, .inl _ :: t, v :: u, h, _ => h
  | 0, .inl _ :: _, [], h, _ => h.elim
  | 0, .inr _ :: _, [], h, _ => h.elim
  | j + 1, .inl r :: t, v :: u, h, hb => ⟨h.1, iv_nF_ok j t u h.2 (fun x hx => hb x hx)⟩
  | j + 1, .inr r :: t, v :: u, h, hb => ⟨h.1, iv_nF_ok j t u h.2 (fun x hx => hb x hx)⟩
  | _ + 1, .inl _ :: _, [], h, _ => h.elim
  | _ + 1, .inr _ :: _, [], h, _ => h.elim
theorem iv_nar_ok {j : Nat} {b : Int × Int} : ∀ (k : Nat) (I : List iv_C) (hp : sm_H), ivH I hp → b.1 ≤ (exF hp k j).toInt ∧ (exF hp k j).toInt ≤ b.2 → ivH (iv_nar j b k I) hp
  | 0, [], _, h, _ => h
  | _ + 1, [], _, h, _ => h
  | 0, .inr o :: t, .inr p :: u, h, hb => by
    refine ⟨⟨h.1.1, iv_nF_ok j o.2 p.2 h.1.2 (fun x hx => ?_)⟩, h.2⟩
    have e : exF (.inr p :: u) 0 j = x := by
      show (match p.2[j]? with
        | some (.int x) => x
        | _ => 0) = x
      rw [hx]
    rw [e] at hb
    exact hb
  | 0, .inr _ :: _, .inl _ :: _, h, _ => h.1.elim
  | 0, .inr _ :: _, [], h, _ => h.elim
  | 0, .inl _ :: _, _ :: _, h, _ => h
  | 0, .inl _ :: _, [], h, _ => h.elim
  | k + 1, c :: t, d :: u, h, hb => ⟨h.1, iv_nar_ok k t u h.2 hb⟩
  | _ + 1, _ :: _, [], h, _ => h.elim
theorem em_cH {d k n : Nat} {C : an_Ct} {I : List iv_C} {bs : an_T} {xs : List Int32} {hp hp' : sm_H} {r : Int32} (hC : an_CO d C) (h : iv_ck n C I k bs IV = true) (hW : an_WF hp) (hI : ivH I hp) (hb : iv_bs bs xs) (m1 : EM 400 C.1 (.ref k :: xs.map Value.int) hp (some (.int r)) hp') : an_rs C.2.2.2.1 (some (.int r)) ∧ an_cH C.2.2.2.2.1 C.2.2.2.2.2 0 C.2.2.1.2.1 hp hp' ∧ an_rS C.2.2.2.2.2 hp hp' := by
  obtain ⟨r', hp'', n1, n2, n3, n4, n5⟩ := iv_ok hC h hW hI hb
  obtain ⟨e1, e2⟩ := em_det m1 n1
  cases e1
  subst e2
  exact ⟨n4, n5⟩
theorem fr_use {μ n k : Nat} {M : List (Nat × Nat)} {W : List Nat} {xs : List Int32} {hp hp' : sm_H} {r : Int32} (f : fRet μ n k M W) (hl : xs.length = n) (hW : an_WF hp) (hI : ivH IV hp) (m1 : EM 400 μ (.ref k :: xs.map Value.int) hp (some (.int r)) hp') : fRm M W hp hp' := by
  obtain ⟨r', hp'', n1, n2⟩ := f xs hp hl hW hI
  obtain ⟨e1, e2⟩ := em_det m1 n1
  subst e2
  exact n2
theorem rs_c {b : Int × Int} {r : Int32} (h : an_rs (some (some b)) (some (.int r))) : b.1 ≤ r.toInt ∧ r.toInt ≤ b.2 := by
  obtain ⟨x, e, h1⟩ := h
  cases e
  exact h1
/-- whether something is kept -/
def rK (hp : sm_H) : Prop := exF hp 0 11 = exF hp 67 6
def opK (q : lw_D) : Prop := ∀ (as : List Int32) (hp hp1 hp2 : sm_H) (r1 r2 : Int32), as.length = q.2.1 → an_WF hp → ivH IV hp → rK hp → EM 400 q.2.2.2.1 (.ref 0 :: as.map Value.int) hp (some (.int r1)) hp1 → an_WF hp1 → ivH IV hp1 → EM 400 q.2.2.2.2.2.1 (.ref 67 :: as.map Value.int) hp1 (some (.int r2)) hp2 → an_WF hp2 → ivH IV hp2 → (q.2.2.2.2.2.2 = true → r1 = r2) ∧ rK hp2
def opKc (M M' : List (Nat × Nat)) : Bool := !M.contains (0, 11) && !M.contains (67, 6) && !M'.contains (0, 11) && !M'.contains (67, 6)
theorem opK_f {n μ μ' : Nat} {M M' : List (Nat × Nat)} {W W' : List Nat} {as : List Int32} {hp hp1 hp2 : sm_H} {r1 r2 : Int32} (f : fRet μ n 0 M W) (f' : fRet μ' n 67 M' W') (hc : opKc M M' = true) (hl : as.length = n) (hW : an_WF hp) (hI : ivH IV hp) (hK : rK hp) (m1 : EM 400 μ (.ref 0 :: as.map Value.int) hp (some (.int r1)) hp1) (hW1 : an_WF hp1) (hI1 : ivH IV hp1) (m2 : EM 400 μ' (.ref 67 :: as.map Value.int) hp1 (some (.int r2)) hp2) : rK hp2 := by
  unfold opKc at hc
  simp only [Bool.and_eq_true, Bool.not_eq_true', List.contains_eq_mem, decide_eq_false_iff_not] at hc
  obtain ⟨⟨⟨c1, c2⟩, c3⟩, c4⟩ := hc
  have g1 := (fr_use f hl hW hI m1).1
  have g2 := (fr_use f' hl hW1 hI1 m2).1
  unfold rK
  rw [g2 _ _ c3, g2 _ _ c4, g1 _ _ c1, g1 _ _ c2]
  exact hK
theorem opK_n {q : lw_D} {M M' : List (Nat × Nat)} {W W' : List Nat} (f : fRet q.2.2.2.1 q.2.1 0 M W) (f' : fRet q.2.2.2.2.2.1 q.2.1 67 M' W') (hq : q.2.2.2.2.2.2 = false) (hc : opKc M M' = true) : opK q := fun as hp hp1 hp2 r1 r2 hl hW hI hK m1 hW1 hI1 m2 hW2 hI2 => ⟨(fun z => by rw [hq] at z; cases z), opK_f f f' hc hl hW hI hK m1 hW1 hI1 m2⟩
theorem i32_eq {x y : Int32} {v : Int} (h1 : v ≤ x.toInt ∧ x.toInt ≤ v) (h2 : v ≤ y.toInt ∧ y.toInt ≤ v) : x = y := Int32.toInt_inj.mp (by omega)
theorem rK_measures {as : List Int32} {hp hp1 hp2 : sm_H} {r1 r2 : Int32} (hl : as.length = 1) (hW : an_WF hp) (hI : ivH IV hp) (hK : rK hp) (m1 : EM 400 9 (.ref 0 :: as.map Value.int) hp (some (.int r1)) hp1) (hW1 : an_WF hp1) (hI1 : ivH IV hp1) (m2 : EM 400 140 (.ref 67 :: as.map Value.int) hp1 (some (.int r2)) hp2) : rK hp2 := by
  have g1 := (fr_use fr_c9 hl hW hI m1).1 67 6 (by decide)
  have g2 := (fr_use fr_m140 hl hW1 hI1 m2).1 0 11 (by decide)
  match as, hl with
  | [x], _ =>
    have t := an_top x
    have hx : ((-2147483648) ≤ x.toInt ∧ x.toInt ≤ 1) ∨ (2 ≤ x.toInt ∧ x.toInt ≤ 6) ∨ (7 ≤ x.toInt ∧ x.toInt ≤ 2147483647) := by omega
    unfold rK
    rw [g2]
    rcases hx with h | h | h
    · have c1 := (em_cH (xs := [x]) cz_o2000 vk_c9_0 hW hI ⟨h, trivial⟩ m1).2.1
      have c2 := (em_cH (xs := [x]) mz_o2003 vk_m140_0 hW1 hI1 ⟨h, trivial⟩ m2).2.1
      rw [cH_F c1 (a := 0) (b := 11) rfl, cH_F c2 (a := 67) (b := 6) rfl, g1]
      exact hK
    · have c1 := (em_cH (xs := [x]) cz_o2001 vk_c9_1 hW hI ⟨h, trivial⟩ m1).2.1
      have c2 := (em_cH (xs := [x]) mz_o2004 vk_m140_1 hW1 hI1 ⟨h, trivial⟩ m2).2.1
      exact i32_eq (cH_M c1 (a := 0) (b := 11) (bd := (0, 0)) rfl hI rfl) (cH_M c2 (a := 67) (b := 6) (bd := (0, 0)) rfl hI1 rfl)
    · have c1 := (em_cH (xs := [x]) cz_o2002 vk_c9_2 hW hI ⟨h, trivial⟩ m1).2.1
      have c2 := (em_cH (xs := [x]) mz_o2005 vk_m140_2 hW1 hI1 ⟨h, trivial⟩ m2).2.1
      rw [cH_F c1 (a := 0) (b := 11) rfl, cH_F c2 (a := 67) (b := 6) rfl, g1]
      exact hK
  | [], h => cases h
  | _ :: _ :: _, h => cases h
