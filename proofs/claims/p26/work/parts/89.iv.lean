/-! what holds between two calls: bounds of all fields and arrays -/
abbrev iv_C : Type := an_A ⊕ (Nat × List (Nat ⊕ (Int × Int)))
noncomputable def iv_F : List (Nat ⊕ (Int × Int)) → an_T → List an_S × an_T
  | [], T => ([], T)
  | .inl r :: t, T => (.inr (.inl r) :: (iv_F t T).1, (iv_F t T).2)
  | .inr b :: t, T => cond (ile b.2 b.1) (.inl (none, b.1) :: (iv_F t T).1, (iv_F t T).2) (.inl (some T.length, 0) :: (iv_F t (T ++ [b])).1, (iv_F t (T ++ [b])).2)
noncomputable def iv_c (c : iv_C) (T : an_T) : an_C × an_T := match c with
  | .inl a => (.inl a, T)
  | .inr o => (.inr (o.1, (iv_F o.2 T).1), (iv_F o.2 T).2)
noncomputable def iv_H : List iv_C → an_T → an_H × an_T
  | [], T => ([], T)
  | c :: t, T => ((iv_c c T).1 :: (iv_H t (iv_c c T).2).1, (iv_H t (iv_c c T).2).2)
noncomputable def ivF : List (Nat ⊕ (Int × Int)) → List Value → Prop
  | [], [] => True
  | .inl r :: t, v :: u => v = .ref r ∧ ivF t u
  | .inr b :: t, v :: u => (∃ x : Int32, v = .int x ∧ b.1 ≤ x.toInt ∧ x.toInt ≤ b.2) ∧ ivF t u
  | _, _ => False
noncomputable def ivC (c : iv_C) (d : sm_C) : Prop := match c, d with
  | .inl a, .inl x => an_rC [] (.inl a) (.inl x)
  | .inr o, .inr p => o.1 = p.1 ∧ ivF o.2 p.2
  | _, _ => False
noncomputable def ivH : List iv_C → sm_H → Prop
  | [], [] => True
  | c :: t, d :: u => ivC c d ∧ ivH t u
  | _, _ => False
theorem iv_F_ok : ∀ (fs : List (Nat ⊕ (Int × Int))) (T : an_T) (ρ : List Int) (vs : List Value), an_rT T ρ → ivF fs vs → ∃ e : List Int, an_rT (iv_F fs T).2 (ρ ++ e) ∧ an_rF (ρ ++ e) (iv_F fs T).1 vs := by
  intro fs
  induction fs with
  | nil =>
    intro T ρ vs hT h
    match vs, h with
    | [], _ => exact ⟨[], by rw [List.append_nil]; exact hT, trivial⟩
    | _ :: _, h => exact h.elim
  | cons f t ih =>
    intro T ρ vs hT h
    match f, vs, h with
    | .inl r, v :: u, h =>
      obtain ⟨e, e1, e2⟩ := ih T ρ u hT h.2
      exact ⟨e, e1, h.1, e2⟩
    | .inr b, v :: u, h =>
      obtain ⟨⟨x, rfl, x1, x2⟩, h2⟩ := h
      unfold iv_F
      cases hc : ile b.2 b.1 with
      | true =>
        rw [ile_iff] at hc
        obtain ⟨e, e1, e2⟩ := ih T ρ u hT h2
        exact ⟨e, e1, ⟨x, rfl, by omega⟩, e2⟩
      | false =>
        obtain ⟨e, e1, e2⟩ := ih (T ++ [b]) (ρ ++ [x.toInt]) u (an_rT_app hT x1 x2) h2
        refine ⟨x.toInt :: e, ?_, ?_, ?_⟩
        · rw [show ρ ++ x.toInt :: e = ρ ++ [x.toInt] ++ e by simp]; exact e1
        · refine ⟨x, x.toInt, rfl, ?_, by omega⟩
          rw [List.getElem?_append_right (by rw [hT.1]; exact Nat.le_refl _), hT.1, Nat.sub_self]
          rfl
        · rw [show ρ ++ x.toInt :: e = ρ ++ [x.toInt] ++ e by simp]; exact e2
    | .inl _, [], h => exact h.elim
    | .inr _, [], h => exact h.elim
theorem iv_c_ok {c : iv_C} {T : an_T} {ρ : List Int} {d : sm_C} (hT : an_rT T ρ) (h : ivC c d) : ∃ e : List Int, an_rT (iv_c c T).2 (ρ ++ e) ∧ an_rC (ρ ++ e) (iv_c c T).1 d := by
  match c, d, h with
  | .inl a, .inl x, h => exact ⟨[], by rw [List.append_nil]; exact hT, an_rC_ext (ρ := []) (ρ ++ []) h⟩
  | .inr o, .inr p, h =>
    obtain ⟨e, e1, e2⟩ := iv_F_ok o.2 T ρ p.2 hT h.2
    exact ⟨e, e1, h.1, e2⟩
  | .inl _, .inr _, h => exact h.elim
  | .inr _, .inl _, h => exact h.elim
theorem iv_H_ok : ∀ (I : List iv_C) (T : an_T) (ρ : List Int) (hp : sm_H), an_rT T ρ → ivH I hp → ∃ e : List Int, an_rT (iv_H I T).2 (ρ ++ e) ∧ an_rH (ρ ++ e) (iv_H I T).1 hp := by
  intro I
  induction I with
  | nil =>
    intro T ρ hp hT h
    match hp, h with
    | [], _ => exact ⟨[], by rw [List.append_nil]; exact hT, trivial⟩
    | _ :: _, h => exact h.elim
  | cons c t ih =>
    intro T ρ hp hT h
    match hp, h with
    | d :: u, h =>
      obtain ⟨e1, f1, f2⟩ := iv_c_ok hT h.1
      obtain ⟨e2, g1, g2⟩ := ih (iv_c c T).2 (ρ ++ e1) u f1 h.2
      exact ⟨e1 ++ e2, by rw [← List.append_assoc]; exact g1, by rw [← List.append_assoc]; exact ⟨an_rC_ext e2 f2, g2⟩⟩
    | [], h => exact h.elim
/-- and back -/
noncomputable def iv_iF (T : an_T) : List (Nat ⊕ (Int × Int)) → List an_S → Bool
  | [], [] => true
  | .inl r :: t, .inr (.inl k) :: u => Nat.beq r k && iv_iF T t u
  | .inr b :: t, a :: u => (match an_iv T a with
    | some p => ile b.1 p.1 && ile p.2 b.2
    | none => false) && iv_iF T t u
  | _, _ => false
noncomputable def iv_iC (T : an_T) (c : iv_C) (d : an_C) : Bool := match c, d with
  | .inl p, .inl q => Nat.beq p.1 q.1 && an_sgi p.2 q.2
  | .inr p, .inr q => Nat.beq p.1 q.1 && iv_iF T p.2 q.2
  | _, _ => false
noncomputable def iv_iH (T : an_T) : List iv_C → an_H → Bool
  | [], [] => true
  | c :: t, d :: u => iv_iC T c d && iv_iH T t u
  | _, _ => false
section IV
variable {T : an_T} {ρ : List Int}
theorem iv_iF_ok (hT : an_rT T ρ) : ∀ (fs : List (Nat ⊕ (Int × Int))) (as : List an_S) (vs : List Value), iv_iF T fs as = true → an_rF ρ as vs → ivF fs vs := by
  intro fs
  induction fs with
  | nil =>
    intro as vs h hr
    match as, vs, h, hr with
    | [], [], _, _ => trivial
    | [], _ :: _, _, hr => exact hr.elim
    | _ :: _, _, h, _ => cases h
  | cons f t ih =>
    intro as vs h hr
    match f, as, vs, h, hr with
    | .inl r, .inr (.inl k) :: u, v :: vs, h, hr =>
      have h : (Nat.beq r k && iv_iF T t u) = true := h
      simp only [Bool.and_eq_true, Nat.beq_eq] at h
      exact ⟨by rw [h.1]; exact hr.1, ih u vs h.2 hr.2⟩
    | .inr b, a :: u, v :: vs, h, hr =>
      have h : ((match an_iv T a with
        | some p => ile b.1 p.1 && ile p.2 b.2
        | none => false) && iv_iF T t u) = true := h
      rw [Bool.and_eq_true] at h
      obtain ⟨h1, h2⟩ := h
      split at h1
      · rename_i p hp
        rw [Bool.and_eq_true, ile_iff, ile_iff] at h1
        obtain ⟨x, rfl, x1, x2⟩ := an_iv_ok hT hr.1 hp
        exact ⟨⟨x, rfl, by omega, by omega⟩, ih u vs h2 hr.2⟩
      · cases h1
    | .inl _, .inl _ :: _, _, h, _ => cases h
    | .inl _, .inr (.inr _) :: _, _, h, _ => cases h
    | .inl _, [], _, h, _ => cases h
    | .inr _, [], _, h, _ => cases h
    | _, _ :: _, [], _, hr => exact hr.elim
theorem iv_iC_ok (hT : an_rT T ρ) {c : iv_C} {q : an_C} {d : sm_C} (h : iv_iC T c q = true) (hr : an_rC ρ q d) : ivC c d := by
  match c, q, d, h, hr with
  | .inl p, .inl q, .inl x, h, hr =>
    have h : (Nat.beq p.1 q.1 && an_sgi p.2 q.2) = true := h
    simp only [Bool.and_eq_true, Nat.beq_eq] at h
    exact an_rC_sgi h.1 h.2 hr
  | .inr p, .inr q, .inr o, h, hr =>
    have h : (Nat.beq p.1 q.1 && iv_iF T p.2 q.2) = true := h
    simp only [Bool.and_eq_true, Nat.beq_eq] at h
    exact ⟨h.1.trans hr.1, iv_iF_ok hT _ _ _ h.2 hr.2⟩
  | .inl _, .inr _, _, h, _ => cases h
  | .inr _, .inl _, _, h, _ => cases h
  | .inl _, .inl _, .inr _, _, hr => exact hr.elim
  | .inr _, .inr _, .inl _, _, hr => exact hr.elim
theorem iv_iH_ok (hT : an_rT T ρ) : ∀ (I : List iv_C) (H : an_H) (hp : sm_H), iv_iH T I H = true → an_rH ρ H hp → ivH I hp := by
  intro I
  induction I with
  | nil =>
    intro H hp h hr
    match H, hp, h, hr with
    | [], [], _, _ => trivial
    | [], _ :: _, _, hr => exact hr.elim
    | _ :: _, _, h, _ => cases h
  | cons c t ih =>
    intro H hp h hr
    match H, hp, h, hr with
    | q :: u, d :: w, h, hr =>
      have h : (iv_iC T c q && iv_iH T t u) = true := h
      rw [Bool.and_eq_true] at h
      exact ⟨iv_iC_ok hT h.1 hr.1, ih u w h.2 hr.2⟩
    | [], _, h, _ => cases h
    | _ :: _, [], _, hr => exact hr.elim
end IV
/-- arguments -/
noncomputable def iv_sy : Nat → an_T → List an_S
  | _, [] => []
  | s, b :: t => cond (ile b.2 b.1) (.inl (none, b.1)) (.inl (some s, 0)) :: iv_sy (s + 1) t
noncomputable def iv_bs : an_T → List Int32 → Prop
  | [], [] => True
  | b :: t, x :: u => (b.1 ≤ x.toInt ∧ x.toInt ≤ b.2) ∧ iv_bs t u
  | _, _ => False
theorem iv_args : ∀ (bs T : an_T) (ρ : List Int) (xs : List Int32), an_rT T ρ → iv_bs bs xs → ∃ e : List Int, an_rT (T ++ bs) (ρ ++ e) ∧ an_rF (ρ ++ e) (iv_sy T.length bs) (xs.map Value.int) := by
  intro bs
  induction bs with
  | nil =>
    intro T ρ xs hT h
    match xs, h with
    | [], _ => exact ⟨[], by rw [List.append_nil, List.append_nil]; exact hT, trivial⟩
    | _ :: _, h => exact h.elim
  | cons b t ih =>
    intro T ρ xs hT h
    match xs, h with
    | x :: u, h =>
      obtain ⟨e, e1, e2⟩ := ih (T ++ [b]) (ρ ++ [x.toInt]) u (an_rT_app hT h.1.1 h.1.2) h.2
      refine ⟨x.toInt :: e, ?_, ?_, ?_⟩
      · rw [show T ++ b :: t = T ++ [b] ++ t by simp, show ρ ++ x.toInt :: e = ρ ++ [x.toInt] ++ e by simp]; exact e1
      · cases hc : ile b.2 b.1 with
        | true =>
          rw [ile_iff] at hc
          have := h.1
          exact ⟨x, rfl, by omega⟩
        | false =>
          refine ⟨x, x.toInt, rfl, ?_, by omega⟩
          rw [List.getElem?_append_right (by rw [hT.1]; exact Nat.le_refl _), hT.1, Nat.sub_self]
          rfl
      · rw [show ρ ++ x.toInt :: e = ρ ++ [x.toInt] ++ e by simp]
        rw [List.length_append] at e2
        exact e2
    | [], h => exact h.elim
theorem iv_bs_tp : ∀ (xs : List Int32) (n : Nat), xs.length = n → iv_bs (List.replicate n an_tp) xs
  | [], 0, _ => trivial
  | x :: t, n + 1, h => ⟨an_top x, iv_bs_tp t n (by simpa using h)⟩
  | [], _ + 1, h => by cases h
  | _ :: _, 0, h => by cases h
/-- the other side's arrays, wide -/
noncomputable def iv_w1 (c : iv_C) : iv_C := match c with
  | .inl a => cond (Nat.blt 1 a.2.length) (.inl (a.1, [(an_len a.2, (-2147483648), 2147483647)])) (.inl a)
  | c => c
noncomputable def iv_wk : Nat → List iv_C → List iv_C
  | _, [] => []
  | 0, c :: t => iv_w1 c :: iv_wk 0 t
  | n + 1, c :: t => c :: iv_wk n t
theorem iv_w1_ok {c : iv_C} {d : sm_C} (h : ivC c d) : ivC (iv_w1 c) d := by
  match c, d, h with
  | .inr _, _, h => exact h
  | .inl a, .inr _, h => exact h.elim
  | .inl a, .inl (kd, .inl l), h =>
    show ivC (cond (Nat.blt 1 a.2.length) (.inl (a.1, [(an_len a.2, (-2147483648), 2147483647)])) (.inl a)) _
    cases Nat.blt 1 a.2.length with
    | false => exact h
    | true =>
      obtain ⟨h1, h2, h3⟩ : a.1 = kd ∧ kd ≠ 1 ∧ an_rA a.2 l := h
      refine ⟨h1, h2, ?_, fun i x b hx hb => ?_⟩
      · show l.length = an_len a.2 + 0
        rw [h3.1, Nat.add_zero]
      · have hb : cond (Nat.blt i (an_len a.2)) (some ((-2147483648), 2147483647)) none = some b := hb
        cases e : Nat.blt i (an_len a.2) with
        | true =>
          rw [e] at hb
          cases hb
          exact an_top x
        | false => rw [e] at hb; cases hb
  | .inl a, .inl (kd, .inr l), h =>
    show ivC (cond (Nat.blt 1 a.2.length) (.inl (a.1, [(an_len a.2, (-2147483648), 2147483647)])) (.inl a)) _
    cases Nat.blt 1 a.2.length with
    | false => exact h
    | true =>
      obtain ⟨h1, h2, h3⟩ : a.1 = kd ∧ kd = 1 ∧ l.length = an_len a.2 := h
      exact ⟨h1, h2, by show l.length = an_len a.2 + 0; rw [h3, Nat.add_zero]⟩
theorem iv_wk_ok : ∀ (n : Nat) (I : List iv_C) (hp : sm_H), ivH I hp → ivH (iv_wk n I) hp
  | 0, [], _, h => h
  | _ + 1, [], _, h => h
  | _, _ :: _, [], h => h.elim
  | 0, c :: t, d :: u, h => ⟨iv_w1_ok h.1, iv_wk_ok 0 t u h.2⟩
  | n + 1, c :: t, d :: u, h => ⟨h.1, iv_wk_ok n t u h.2⟩
/-- a contract at work between two calls -/
noncomputable def iv_ck (n : Nat) (C : an_Ct) (I : List iv_C) (k : Nat) (bs : an_T) (J : List iv_C) : Bool := match C.2.2.2.1 with
  | some (some _) => an_prot C && an_fits 0 [] (.inr (.inl k) :: iv_sy 0 bs) ((iv_H (iv_wk n I) bs).2, (iv_H (iv_wk n I) bs).1, [], []) [] C.2.1 C.2.2.1 && iv_iH (an_hH C.2.2.2.2.1 C.2.2.2.2.2 0 C.2.2.1.2.1 (iv_H I bs).1 (iv_H I bs).2).2 J (an_hH C.2.2.2.2.1 C.2.2.2.2.2 0 C.2.2.1.2.1 (iv_H I bs).1 (iv_H I bs).2).1
  | _ => false
theorem iv_ok {d k n : Nat} {C : an_Ct} {I J : List iv_C} {bs : an_T} (hC : an_CO d C) (h : iv_ck n C I k bs J = true) {xs : List Int32} {hp : sm_H} (hW : an_WF hp) (hI : ivH I hp) (hb : iv_bs bs xs) : ∃ (r : Int32) (hp' : sm_H), EM d C.1 (.ref k :: xs.map Value.int) hp (some (.int r)) hp' ∧ an_WF hp' ∧ ivH J hp' ∧ an_rs C.2.2.2.1 (some (.int r)) ∧ an_cH C.2.2.2.2.1 C.2.2.2.2.2 0 C.2.2.1.2.1 hp hp' ∧ an_rS C.2.2.2.2.2 hp hp' := by
  unfold iv_ck at h
  split at h
  · rename_i bd hr
    rw [Bool.and_eq_true, Bool.and_eq_true] at h
    obtain ⟨⟨h1, h2⟩, h3⟩ := h
    obtain ⟨e0, a1, a2⟩ := iv_args bs [] [] xs ⟨rfl, fun s b r z => by cases z⟩ hb
    rw [List.nil_append] at a1
    obtain ⟨e, b1, b2⟩ := iv_H_ok (iv_wk n I) bs ([] ++ e0) hp a1 (iv_wk_ok n I hp hI)
    obtain ⟨f, d1, d2⟩ := iv_H_ok I bs ([] ++ e0) hp a1 hI
    have hF : an_rF (([] ++ e0) ++ e) (.inr (.inl k) :: iv_sy 0 bs) (.ref k :: xs.map Value.int) := ⟨rfl, an_rF_ext e a2⟩
    obtain ⟨σ, _, _, _, s1, s2⟩ := an_fits_ok (h0 := hp) (hp := hp) (lc := []) (Nat.zero_le _) h2 ⟨rfl, fun i a z => by cases z⟩ hF ⟨b1, b2, an_rW_rf, an_rM_nil⟩
    obtain ⟨v, hp', r1, r2, r3, r4⟩ := hC σ _ hp hW s1 s2
    have r2' := r2
    rw [hr] at r2
    obtain ⟨x, rfl, -⟩ := r2
    obtain ⟨e', c1, c2⟩ := an_hH_ok C.2.2.2.2.1 C.2.2.2.2.2 C.2.2.1.2.1 (iv_H I bs).1 0 (iv_H I bs).2 _ hp hp' d1 d2 r3
    exact ⟨x, hp', r1, an_WF_keep (an_cH_P h1 r3) hW, iv_iH_ok c1 J _ hp' h3 c2, r2', r3, r4⟩
  · cases h
/-- fewer bounds -/
theorem ivH_get : ∀ {I : List iv_C} {hp : sm_H} {k : Nat} {c : iv_C}, ivH I hp → I[k]? = some c → ∃ d, hp[k]? = some d ∧ ivC c d
  | a :: t, v :: u, 0, b, h, e => by cases e; exact ⟨v, rfl, h.1⟩
  | a :: t, v :: u, j + 1, b, h, e => ivH_get (I := t) (hp := u) (k := j) h.2 e
  | [], [], _, _, _, e => by cases e
  | [], _ :: _, _, _, h, _ => h.elim
  | _ :: _, [], _, _, h, _ => h.elim
theorem iv_mid {c : iv_C} {r : List iv_C} : ∀ (l : List iv_C) (hp : sm_H), ivH (l ++ c :: r) hp → ∃ d, hp[l.length]? = some d ∧ ivC c d ∧ ∀ c', ivC c' d → ivH (l ++ c' :: r) hp
  | [], d :: u, h => ⟨d, rfl, h.1, fun c' h' => ⟨h', h.2⟩⟩
  | [], [], h => h.elim
  | _ :: _, [], h => h.elim
  | a :: l, d :: u, h => by
    obtain ⟨d', h0, h1, h2⟩ := iv_mid l u h.2
    exact ⟨d', h0, h1, fun c' h' => ⟨h.1, h2 c' h'⟩⟩
theorem iv_midF {b : Int × Int} {r : List (Nat ⊕ (Int × Int))} : ∀ (l : List (Nat ⊕ (Int × Int))) (vs : List Value), ivF (l ++ .inr b :: r) vs → ∃ x : Int32, vs[l.length]? = some (.int x) ∧ (b.1 ≤ x.toInt ∧ x.toInt ≤ b.2) ∧ ∀ b' : Int × Int, b'.1 ≤ x.toInt ∧ x.toInt ≤ b'.2 → ivF (l ++ .inr b' :: r) vs
  | [], v :: u, h => by
    obtain ⟨⟨x, rfl, x1⟩, h2⟩ := h
    exact ⟨x, rfl, x1, fun b' h' => ⟨⟨x, rfl, h'⟩, h2⟩⟩
  | [], [], h => h.elim
  | .inl _ :: _, [], h => h.elim
  | .inr _ :: _, [], h => h.elim
  | .inl a :: l, v :: u, h => by
    obtain ⟨x, h0, h1, h2⟩ := iv_midF l u h.2
    exact ⟨x, h0, h1, fun b' h' => ⟨h.1, h2 b' h'⟩⟩
  | .inr a :: l, v :: u, h => by
    obtain ⟨x, h0, h1, h2⟩ := iv_midF l u h.2
    exact ⟨x, h0, h1, fun b' h' => ⟨h.1, h2 b' h'⟩⟩
/-- numbers and arrays anew -/
noncomputable def iv_lk : List (Nat × Int × Int) → Nat → Option (Int × Int)
  | [], _ => none
  | q :: t, j => cond (Nat.beq q.1 j) (some q.2) (iv_lk t j)
theorem iv_lk_none : ∀ {fb : List (Nat × Int × Int)} {j : Nat}, iv_lk fb j = none → j ∉ fb.map Prod.fst
  | [], _, _ => by simp
  | q :: t, j, h => by
    unfold iv_lk at h
    cases e : Nat.beq q.1 j with
    | true => rw [e] at h; cases h
    | false =>
      rw [e] at h
      intro z
      rcases List.mem_cons.mp z with z | z
      · rw [z, show Nat.beq q.1 q.1 = true by simp [Nat.beq_eq]] at e; cases e
      · exact iv_lk_none h z
noncomputable def iv_uF (fb : List (Nat × Int × Int)) : Nat → List (Nat ⊕ (Int × Int)) → List (Option Nat) → Bool
  | _, [], [] => true
  | j, .inl r :: t, some q :: u => Nat.beq r q && iv_uF fb (j + 1) t u
  | j, .inr b :: t, none :: u => (match iv_lk fb j with
    | some p => ile b.1 p.1 && ile p.2 b.2
    | none => true) && iv_uF fb (j + 1) t u
  | _, _, _ => false
noncomputable def iv_top (n : Nat) (a : List (Nat × Int × Int)) : Bool := match a with
  | [g] => Nat.beq g.1 n && ile g.2.1 (-2147483648) && ile 2147483647 g.2.2
  | _ => false
noncomputable def iv_uH (fb : List (Nat × Int × Int)) (S : List Nat) : Nat → List iv_C → List ((Nat × Nat) ⊕ (Nat × List (Option Nat))) → Bool
  | _, [], [] => true
  | k, .inl a :: t, .inl q :: u => (!an_ein S k || (!Nat.beq q.1 1 && Nat.beq a.1 q.1 && iv_top q.2 a.2)) && iv_uH fb S (k + 1) t u
  | k, .inr o :: t, .inr q :: u => (!Nat.beq k 67 || (Nat.beq o.1 q.1 && iv_uF fb 0 o.2 q.2)) && iv_uH fb S (k + 1) t u
  | _, _, _ => false
section IVU
variable {F F' : Nat → Nat → Int32} {A A' : Nat → List Int32} {L : Nat → List Int64} {fb : List (Nat × Int × Int)} {S : List Nat}
theorem iv_uF_ok (hF : ∀ b, iv_lk fb b = none → F' 67 b = F 67 b) (hb : ∀ j b, iv_lk fb j = some b → b.1 ≤ (F' 67 j).toInt ∧ (F' 67 j).toInt ≤ b.2) : ∀ (I : List (Nat ⊕ (Int × Int))) (P : List (Option Nat)) (j : Nat), iv_uF fb j I P = true → ivF I (rbF F 67 j P) → ivF I (rbF F' 67 j P)
  | [], [], _, _, h => h
  | .inl r :: t, some q :: u, j, hu, h => by
    have hu : (Nat.beq r q && iv_uF fb (j + 1) t u) = true := hu
    rw [Bool.and_eq_true] at hu
    exact ⟨h.1, iv_uF_ok hF hb t u (j + 1) hu.2 h.2⟩
  | .inr b :: t, none :: u, j, hu, h => by
    have hu : ((match iv_lk fb j with
      | some p => ile b.1 p.1 && ile p.2 b.2
      | none => true) && iv_uF fb (j + 1) t u) = true := hu
    rw [Bool.and_eq_true] at hu
    refine ⟨?_, iv_uF_ok hF hb t u (j + 1) hu.2 h.2⟩
    have h1 := hu.1
    split at h1
    · rename_i p hp
      rw [Bool.and_eq_true, ile_iff, ile_iff] at h1
      have := hb j p hp
      exact ⟨_, rfl, by omega, by omega⟩
    · rename_i hn
      obtain ⟨x, x1, x2⟩ := h.1
      exact ⟨x, by rw [hF j hn]; exact x1, x2⟩
  | [], _ :: _, _, hu, _ => by cases hu
  | .inl _ :: _, [], _, hu, _ => by cases hu
  | .inl _ :: _, none :: _, _, hu, _ => by cases hu
  | .inr _ :: _, [], _, hu, _ => by cases hu
  | .inr _ :: _, some _ :: _, _, hu, _ => by cases hu
theorem rbF_eq {k : Nat} (h : ∀ b, F' k b = F k b) : ∀ (P : List (Option Nat)) (j : Nat), rbF F' k j P = rbF F k j P
  | [], _ => rfl
  | some r :: t, j => by
    show Value.ref r :: rbF F' k (j + 1) t = Value.ref r :: rbF F k (j + 1) t
    rw [rbF_eq h t (j + 1)]
  | none :: t, j => by
    show Value.int (F' k j) :: rbF F' k (j + 1) t = Value.int (F k j) :: rbF F k (j + 1) t
    rw [h j, rbF_eq h t (j + 1)]
theorem iv_top_ok {n : Nat} {a : List (Nat × Int × Int)} {l : List Int32} (h : iv_top n a = true) (hl : l.length = n) : an_rA a l := by
  unfold iv_top at h
  split at h
  · rename_i g
    obtain ⟨kk, lo, hi⟩ := g
    simp only [Bool.and_eq_true, Nat.beq_eq, ile_iff] at h
    obtain ⟨⟨h1, h2⟩, h3⟩ := h
    refine ⟨?_, fun i x b hx hb => ?_⟩
    · show l.length = kk + 0
      omega
    · have hb : cond (Nat.blt i kk) (some (lo, hi)) none = some b := hb
      cases e : Nat.blt i kk with
      | true =>
        rw [e] at hb
        cases hb
        have := an_top x
        exact ⟨by show lo ≤ _; omega, by show _ ≤ hi; omega⟩
      | false => rw [e] at hb; cases hb
  · cases h
theorem iv_uH_ok (hF : ∀ a b, (a ≠ 67 ∨ iv_lk fb b = none) → F' a b = F a b) (hb : ∀ j b, iv_lk fb j = some b → b.1 ≤ (F' 67 j).toInt ∧ (F' 67 j).toInt ≤ b.2) (hA : ∀ k, k ∉ S → A' k = A k) (hl : ∀ k kd n, k ∈ S → hz_P[k]? = some (.inl (kd, n)) → (A' k).length = n) : ∀ (I : List iv_C) (P : List ((Nat × Nat) ⊕ (Nat × List (Option Nat)))) (k : Nat), (∀ j, P[j]? = hz_P[k + j]?) → iv_uH fb S k I P = true → ivH I (rbH F A L k P) → ivH I (rbH F' A' L k P)
  | [], [], _, _, _, h => h
  | .inl a :: t, .inl q :: u, k, hP, hu, h => by
    have hu : ((!an_ein S k || (!Nat.beq q.1 1 && Nat.beq a.1 q.1 && iv_top q.2 a.2)) && iv_uH fb S (k + 1) t u) = true := hu
    rw [Bool.and_eq_true] at hu
    refine ⟨?_, iv_uH_ok hF hb hA hl t u (k + 1) (fun j => by rw [show k + 1 + j = k + (j + 1) by omega, ← hP (j + 1)]; rfl) hu.2 h.2⟩
    have h1 : ivC (.inl a) (cond (Nat.beq q.1 1) (.inl (1, .inr (L k))) (.inl (q.1, .inl (A k)))) := h.1
    show ivC (.inl a) (cond (Nat.beq q.1 1) (.inl (1, .inr (L k))) (.inl (q.1, .inl (A' k))))
    cases e : an_ein S k with
    | false =>
      rw [hA k (fun z => by rw [an_ein_mem z] at e; cases e)]
      exact h1
    | true =>
      have hu1 := hu.1
      rw [e] at hu1
      simp only [Bool.not_true, Bool.false_or, Bool.and_eq_true, Bool.not_eq_true', Nat.beq_eq] at hu1
      obtain ⟨⟨u1, u2⟩, u3⟩ := hu1
      rw [u1]
      refine ⟨u2, fun z => ?_, iv_top_ok u3 (hl k q.1 q.2 (an_ein_ok e) (by rw [← Nat.add_zero k, ← hP 0]; rfl))⟩
      rw [z] at u1
      cases u1
  | .inr o :: t, .inr q :: u, k, hP, hu, h => by
    have hu : ((!Nat.beq k 67 || (Nat.beq o.1 q.1 && iv_uF fb 0 o.2 q.2)) && iv_uH fb S (k + 1) t u) = true := hu
    rw [Bool.and_eq_true] at hu
    refine ⟨?_, iv_uH_ok hF hb hA hl t u (k + 1) (fun j => by rw [show k + 1 + j = k + (j + 1) by omega, ← hP (j + 1)]; rfl) hu.2 h.2⟩
    have h1 : o.1 = q.1 ∧ ivF o.2 (rbF F k 0 q.2) := h.1
    show o.1 = q.1 ∧ ivF o.2 (rbF F' k 0 q.2)
    refine ⟨h1.1, ?_⟩
    by_cases e : k = 67
    · subst e
      have hu1 := hu.1
      rw [show Nat.beq 67 67 = true from rfl] at hu1
      simp only [Bool.not_true, Bool.false_or, Bool.and_eq_true] at hu1
      exact iv_uF_ok (fun b hn => hF 67 b (Or.inr hn)) hb o.2 q.2 0 hu1.2 h1.2
    · rw [rbF_eq (fun b => hF k b (Or.inl e))]
      exact h1.2
  | [], _ :: _, _, _, hu, _ => by cases hu
  | .inl _ :: _, [], _, _, hu, _ => by cases hu
  | .inr _ :: _, [], _, _, hu, _ => by cases hu
  | .inl _ :: _, .inr _ :: _, _, _, hu, _ => by cases hu
  | .inr _ :: _, .inl _ :: _, _, _, hu, _ => by cases hu
end IVU
theorem wf_same {F F' : Nat → Nat → Int32} {A A' : Nat → List Int32} {L : Nat → List Int64} (h : an_WF (hz F A L)) (h17 : F' 67 17 = F 67 17) (h78 : A' 78 = A 78) (h80 : A' 80 = A 80) (h81 : A' 81 = A 81) (h82 : A' 82 = A 82) : an_WF (hz F' A' L) := by
  obtain ⟨n, lc, l1, l2, l3, w1, w2, w3, w4, w5, w6⟩ := h
  refine ⟨n, lc, l1, l2, l3, ?_, ?_, ?_, ?_, ?_, w6⟩
  · show some (Value.int (F' 67 17)) = _
    rw [h17]; exact w1
  · show some (Sum.inl (0, Sum.inl (A' 78))) = _
    rw [h78]; exact w2
  · show some (Sum.inl (0, Sum.inl (A' 80))) = _
    rw [h80]; exact w3
  · show some (Sum.inl (0, Sum.inl (A' 81))) = _
    rw [h81]; exact w4
  · show some (Sum.inl (0, Sum.inl (A' 82))) = _
    rw [h82]; exact w5
theorem em_det {d d' μ : Nat} {as : List Value} {hp h1 h2 : sm_H} {v w : Option Value} (h : EM d μ as hp v h1) (h' : EM d' μ as hp w h2) : v = w ∧ h1 = h2 := by
  obtain ⟨N, hN⟩ := em_up h (Nat.le_max_left d d')
  obtain ⟨M, hM⟩ := em_up h' (Nat.le_max_right d d')
  have := (hN (max N M) (Nat.le_max_left _ _)).symm.trans (hM (max N M) (Nat.le_max_right _ _))
  cases this
  exact ⟨rfl, rfl⟩
theorem em_v {d d' μ : Nat} {as : List Value} {hp h1 h2 : sm_H} {r s : Int32} (h : EM d μ as hp (some (.int r)) h1) (h' : EM d' μ as hp (some (.int s)) h2) : r = s := by
  have := (em_det h h').1
  cases this
  rfl
