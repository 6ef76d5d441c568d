/-! bounds made narrower at a field; contracts at a run that is given -/
noncomputable def iv_nF (b : Int × Int) : Nat → List (Nat ⊕ (Int × Int)) → List (Nat ⊕ (Int × Int))
  | _, [] => []
  | 0, .inr _ :: t => .inr b :: t
  | 0, .inl r :: t => .inl r :: t
  | j + 1, f :: t => f :: iv_nF b j t
noncomputable def iv_n1 (j : Nat) (b : Int × Int) (c : iv_C) : iv_C := match c with
  | .inr o => .inr (o.1, iv_nF b j o.2)
  | .inl a => .inl a
noncomputable def iv_nar (j : Nat) (b : Int × Int) : Nat → List iv_C → List iv_C
  | _, [] => []
  | 0, c :: t => iv_n1 j b c :: t
  | k + 1, c :: t => c :: iv_nar j b k t
theorem iv_nF_ok {b : Int × Int} : ∀ (j : Nat) (fs : List (Nat ⊕ (Int × Int))) (vs : List Value), ivF fs vs → (∀ x : Int32, vs[j]? = some (.int x) → b.1 ≤ x.toInt ∧ x.toInt ≤ b.2) → ivF (iv_nF b j fs) vs
  | 0, [], _, h, _ => h
  | _ + 1, [], _, h, _ => h
  | 0, .inr _ :: t, v :: u, h, hb => by
    obtain ⟨x, rfl, -⟩ := h.1
    exact ⟨⟨x, rfl, hb x rfl⟩, h.2⟩
  | 0, .inl _ :: t, v :: u, h, _ => h
  | 0, .inl _ :: _, [], h, _ => h.elim
  | 0, .inr _ :: _, [], h, _ => h.elim
  | j + 1, .inl r :: t, v :: u, h, hb => ⟨h.1, iv_nF_ok j t u h.2 (fun x hx => hb x hx)⟩
  | j + 1, .inr r :: t, v :: u, h, hb => ⟨h.1, iv_nF_ok j t u h.2 (fun x hx => hb x hx)⟩
  | _ + 1, .inl _ :: _, [], h, _ => h.elim
  | _ + 1, .inr _ :: _, [], h, _ => h.elim
theorem iv_nar_ok {j : Nat} {b : Int × Int} : ∀ (k : Nat) (I : List iv_C) (hp : sm_H), ivH I hp → b.1 ≤ (exF hp k j).toInt ∧ (exF hp k j).toInt ≤ b.2 → ivH (iv_nar j b k I) hp
  | 0, [], _, h, _ => h
  | _ + 1, [], _, h, _ => h
  | 0, .inr o :: t, .inr p :: u, h, hb => by
    refine ⟨⟨h.1.1, iv_nF_ok j o.2 p.2 h.1.2 (fun x hx => ?_)⟩, h.2⟩
    have e : exF (.inr p :: u) 0 j = x := by
      show (match p.2[j]? with
        | some (.int x) => x
        | _ => 0) = x
      rw [hx]
    rw [e] at hb
    exact hb
  | 0, .inr _ :: _, .inl _ :: _, h, _ => h.1.elim
  | 0, .inr _ :: _, [], h, _ => h.elim
  | 0, .inl _ :: _, _ :: _, h, _ => h
  | 0, .inl _ :: _, [], h, _ => h.elim
  | k + 1, c :: t, d :: u, h, hb => ⟨h.1, iv_nar_ok k t u h.2 hb⟩
  | _ + 1, _ :: _, [], h, _ => h.elim
theorem em_cH {d k n : Nat} {C : an_Ct} {I : List iv_C} {bs : an_T} {xs : List Int32} {hp hp' : sm_H} {r : Int32} (hC : an_CO d C) (h : iv_ck n C I k bs IV = true) (hW : an_WF hp) (hI : ivH I hp) (hb : iv_bs bs xs) (m1 : EM 400 C.1 (.ref k :: xs.map Value.int) hp (some (.int r)) hp') : an_rs C.2.2.2.1 (some (.int r)) ∧ an_cH C.2.2.2.2.1 C.2.2.2.2.2 0 C.2.2.1.2.1 hp hp' ∧ an_rS C.2.2.2.2.2 hp hp' := by
  obtain ⟨r', hp'', n1, n2, n3, n4, n5⟩ := iv_ok hC h hW hI hb
  obtain ⟨e1, e2⟩ := em_det m1 n1
  cases e1
  subst e2
  exact ⟨n4, n5⟩
theorem fr_use {μ n k : Nat} {M : List (Nat × Nat)} {W : List Nat} {xs : List Int32} {hp hp' : sm_H} {r : Int32} (f : fRet μ n k M W) (hl : xs.length = n) (hW : an_WF hp) (hI : ivH IV hp) (m1 : EM 400 μ (.ref k :: xs.map Value.int) hp (some (.int r)) hp') : fRm M W hp hp' := by
  obtain ⟨r', hp'', n1, n2⟩ := f xs hp hl hW hI
  obtain ⟨e1, e2⟩ := em_det m1 n1
  subst e2
  exact n2
theorem rs_c {b : Int × Int} {r : Int32} (h : an_rs (some (some b)) (some (.int r))) : b.1 ≤ r.toInt ∧ r.toInt ≤ b.2 := by
  obtain ⟨x, e, h1⟩ := h
  cases e
  exact h1
