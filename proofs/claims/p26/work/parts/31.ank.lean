/-! measures, nodes, and a contract's check -/
abbrev an_Fm : Type := List (Nat × Int) × Int
noncomputable def an_ins (s : Nat) (c : Int) : List (Nat × Int) → List (Nat × Int)
  | [] => [(s, c)]
  | q :: t => cond (Nat.beq q.1 s) ((s, q.2 + c) :: t) (q :: an_ins s c t)
noncomputable def an_ev (ρ : List Int) : List (Nat × Int) → Int
  | [] => 0
  | q :: t => q.2 * ρ.getD q.1 0 + an_ev ρ t
theorem an_ins_ev (ρ : List Int) (s : Nat) (c : Int) : ∀ l : List (Nat × Int), an_ev ρ (an_ins s c l) = c * ρ.getD s 0 + an_ev ρ l
  | [] => rfl
  | q :: t => by
    unfold an_ins
    cases h : Nat.beq q.1 s with
    | true =>
      have h := Nat.beq_eq.mp h
      show (q.2 + c) * ρ.getD s 0 + an_ev ρ t = c * ρ.getD s 0 + (q.2 * ρ.getD q.1 0 + an_ev ρ t)
      rw [h, Int.add_mul]; omega
    | false =>
      show q.2 * ρ.getD q.1 0 + an_ev ρ (an_ins s c t) = c * ρ.getD s 0 + (q.2 * ρ.getD q.1 0 + an_ev ρ t)
      rw [an_ins_ev ρ s c t]; omega
noncomputable def an_lb (T : an_T) : List (Nat × Int) → Option Int
  | [] => some 0
  | q :: t => match T[q.1]?, an_lb T t with
    | some b, some r => some (cond (ile 0 q.2) (q.2 * b.1) (q.2 * b.2) + r)
    | _, _ => none
theorem an_lb_ok {T : an_T} {ρ : List Int} (hT : an_rT T ρ) : ∀ (l : List (Nat × Int)) (r : Int), an_lb T l = some r → r ≤ an_ev ρ l
  | [], r, h => by cases h; exact Int.le_refl _
  | q :: t, r, h => by
    unfold an_lb at h
    split at h
    · rename_i b r' hb hr
      cases h
      have ih := an_lb_ok hT t r' hr
      have hs : q.1 < ρ.length := by rw [← hT.1]; exact (List.getElem?_eq_some_iff.mp hb).1
      have e : ρ[q.1]? = some (ρ.getD q.1 0) := by rw [List.getD_eq_getElem?_getD, List.getElem?_eq_getElem hs]; rfl
      obtain ⟨b1, b2⟩ := hT.2 q.1 b _ hb e
      show _ ≤ q.2 * ρ.getD q.1 0 + an_ev ρ t
      cases hc : ile 0 q.2 with
      | true =>
        rw [ile_iff] at hc
        have := Int.mul_le_mul_of_nonneg_left b1 hc
        dsimp only [cond_true]
        omega
      | false =>
        have hc : q.2 ≤ 0 := by
          rcases Int.le_total 0 q.2 with z | z
          · rw [ile_iff.mpr z] at hc; cases hc
          · exact z
        have := Int.mul_le_mul_of_nonpos_left hc b2
        dsimp only [cond_false]
        omega
    · cases h
noncomputable def an_mf (k : Int) (ls : an_L) : List (Nat × Int) → an_Fm → Option an_Fm
  | [], f => some f
  | q :: t, f => match an_ld ls q.1 with
    | some (.inl (none, d)) => an_mf k ls t (f.1, f.2 + k * q.2 * d)
    | some (.inl (some s, d)) => an_mf k ls t (an_ins s (k * q.2) f.1, f.2 + k * q.2 * d)
    | _ => none
noncomputable def an_mx (lc : sm_L) (i : Nat) : Int := match sm_ld lc i with
  | some (.int x) => x.toInt
  | _ => 0
noncomputable def an_mv (lc : sm_L) : List (Nat × Int) → Int
  | [] => 0
  | q :: t => q.2 * an_mx lc q.1 + an_mv lc t
theorem an_mf_ok {ρ : List Int} {k : Int} {ls : an_L} {lc : sm_L} (hL : an_rL ρ ls lc) : ∀ (ts : List (Nat × Int)) (f f' : an_Fm), an_mf k ls ts f = some f' → an_ev ρ f'.1 + f'.2 = an_ev ρ f.1 + f.2 + k * an_mv lc ts := by
  intro ts
  induction ts with
  | nil => intro f f' h; cases h; simp [an_mv]
  | cons q t ih =>
    intro f f' h
    unfold an_mf at h
    have e0 : an_mv lc (q :: t) = q.2 * an_mx lc q.1 + an_mv lc t := rfl
    split at h
    · rename_i d hd
      obtain ⟨v, h1, x, rfl, h2⟩ := an_ld_c hL hd
      have e1 : an_mx lc q.1 = d := by unfold an_mx; rw [h1]; exact h2
      have := ih _ _ h
      rw [this, e0, e1, Int.mul_add, Int.mul_assoc]; dsimp only; omega
    · rename_i s d hd
      obtain ⟨v, h1, x, r, rfl, h3, h2⟩ := an_ld_c hL hd
      have e1 : an_mx lc q.1 = r + d := by unfold an_mx; rw [h1]; exact h2
      have e2 : ρ.getD s 0 = r := by rw [List.getD_eq_getElem?_getD, h3]; rfl
      have := ih _ _ h
      rw [this, e0, e1, an_ins_ev, e2]
      dsimp only
      rw [Int.mul_add, Int.mul_add, Int.mul_add, Int.mul_assoc, Int.mul_assoc]; omega
    · cases h
abbrev an_Nd : Type := Nat × an_L × List an_S × an_Z × List (Nat × Int) × Int
/-- a number less another one, by their order -/
noncomputable def an_pf2 (p q : Nat × Int) (c : Int) (f : an_Fc) : Bool := match f with
  | .inr (.inl (.inl (some s1, o1), .inl (some s2, o2), k)) => Nat.beq s1 p.1 && (Nat.beq s2 q.1 && ile 1 (q.2 * (o1 + k - o2) + c))
  | _ => false
noncomputable def an_pr2 (M : List an_Fc) (p q : Nat × Int) (c : Int) : Bool := ile 1 q.2 && (ieq p.2 (-q.2) && M.any (an_pf2 p q c))
noncomputable def an_nz : List (Nat × Int) → List (Nat × Int)
  | [] => []
  | q :: t => cond (ieq q.2 0) (an_nz t) (q :: an_nz t)
noncomputable def an_pr (M : List an_Fc) (f : an_Fm) : Bool := match an_nz f.1 with
  | [p, q] => an_pr2 M p q f.2 || an_pr2 M q p f.2
  | _ => false
theorem an_nz_ev (ρ : List Int) : ∀ l : List (Nat × Int), an_ev ρ (an_nz l) = an_ev ρ l
  | [] => rfl
  | q :: t => by
    unfold an_nz
    cases h : ieq q.2 0 with
    | true =>
      rw [ieq_iff] at h
      show an_ev ρ (an_nz t) = q.2 * ρ.getD q.1 0 + an_ev ρ t
      rw [an_nz_ev ρ t, h]; omega
    | false => show q.2 * ρ.getD q.1 0 + an_ev ρ (an_nz t) = q.2 * ρ.getD q.1 0 + an_ev ρ t; rw [an_nz_ev ρ t]
theorem an_pr2_ok {ρ : List Int} {M : List an_Fc} {hp : sm_H} {p q : Nat × Int} {c : Int} (hM : an_rM ρ M hp) (h : an_pr2 M p q c = true) : 1 ≤ p.2 * ρ.getD p.1 0 + q.2 * ρ.getD q.1 0 + c := by
  unfold an_pr2 at h
  rw [Bool.and_eq_true, Bool.and_eq_true, ile_iff, ieq_iff] at h
  obtain ⟨h1, h2, h3⟩ := h
  obtain ⟨f, hf, hb⟩ := List.any_eq_true.mp h3
  have hr := hM f hf
  unfold an_pf2 at hb
  split at hb
  · rename_i s1 o1 s2 o2 k
    rw [Bool.and_eq_true, Bool.and_eq_true, Nat.beq_eq, Nat.beq_eq, ile_iff] at hb
    obtain ⟨rfl, rfl, h5⟩ := hb
    obtain ⟨x, y, hx, hy, hxy⟩ := hr
    obtain ⟨x', r1, e1, g1, g2⟩ := hx
    obtain ⟨y', r2, e2, g3, g4⟩ := hy
    cases e1
    cases e2
    dsimp only at hxy
    rw [List.getD_eq_getElem?_getD, g1, List.getD_eq_getElem?_getD, g3]
    dsimp only [Option.getD_some]
    have key : q.2 * (o1 + k - o2) ≤ q.2 * (r2 - r1) := Int.mul_le_mul_of_nonneg_left (by omega) (by omega)
    have e3 : q.2 * (r2 - r1) = p.2 * r1 + q.2 * r2 := by rw [h2, Int.mul_sub, Int.neg_mul]; omega
    omega
  · cases hb
theorem an_pr_ok {ρ : List Int} {M : List an_Fc} {hp : sm_H} {f : an_Fm} (hM : an_rM ρ M hp) (h : an_pr M f = true) : 1 ≤ an_ev ρ f.1 + f.2 := by
  unfold an_pr at h
  rw [← an_nz_ev ρ f.1]
  split at h
  · rename_i p q he
    rw [he]
    have e : an_ev ρ [p, q] = p.2 * ρ.getD p.1 0 + (q.2 * ρ.getD q.1 0 + 0) := rfl
    rw [e]
    rcases Bool.or_eq_true _ _ |>.mp h with h | h
    · have := an_pr2_ok hM h; omega
    · have := an_pr2_ok hM h; omega
  · cases h
noncomputable def an_dec (F : an_Fm) (n : an_Nd) (ls : an_L) (T : an_T) (M : List an_Fc) : Bool := match an_mf (-1) ls n.2.2.2.2.1 (F.1, F.2 - n.2.2.2.2.2) with
  | some f => (match an_lb T f.1 with
    | some r => ile 1 (r + f.2)
    | none => false) || an_pr M f
  | none => false
noncomputable def an_nc' (m : Nat) (F : Option an_Fm) (n : an_Nd) (ls : an_L) (st : List an_S) (Z : an_Z) : Bool := an_fits m ls st (an_tg Z) n.2.1 n.2.2.1 n.2.2.2.1 && (match F with
  | none => true
  | some F => an_dec F n ls Z.1 Z.2.2.2)
/-- any of the nodes at that place will do -/
noncomputable def an_nd (m : Nat) (F : Option an_Fm) (N : List an_Nd) : an_N := fun pc => cond (N.any (fun n => Nat.beq n.1 pc)) (some (fun ls st Z => N.any (fun n => Nat.beq n.1 pc && an_nc' m F n ls st Z))) none
theorem an_nd_mem {m : Nat} {F : Option an_Fm} {pc : Nat} {c : an_L → List an_S → an_Z → Bool} {N : List an_Nd} {ls : an_L} {st : List an_S} {Z : an_Z} (h : an_nd m F N pc = some c) (hc : c ls st Z = true) : ∃ n ∈ N, n.1 = pc ∧ an_nc' m F n ls st Z = true := by
  unfold an_nd at h
  cases hb : N.any (fun n => Nat.beq n.1 pc) with
  | false => rw [hb] at h; cases h
  | true =>
    rw [hb] at h
    cases h
    obtain ⟨n, h1, h2⟩ := List.any_eq_true.mp hc
    rw [Bool.and_eq_true, Nat.beq_eq] at h2
    exact ⟨n, h1, h2.1, h2.2⟩
theorem an_dec_ok {ρ : List Int} {F : an_Fm} {n : an_Nd} {ls : an_L} {lc : sm_L} {T : an_T} {M : List an_Fc} {hp : sm_H} (hT : an_rT T ρ) (hM : an_rM ρ M hp) (hL : an_rL ρ ls lc) (h : an_dec F n ls T M = true) : an_mv lc n.2.2.2.2.1 + n.2.2.2.2.2 + 1 ≤ an_ev ρ F.1 + F.2 := by
  unfold an_dec at h
  split at h
  · rename_i f hf
    have h2 := an_mf_ok hL _ _ _ hf
    dsimp only at h2
    rcases Bool.or_eq_true _ _ |>.mp h with h | h
    · split at h
      · rename_i r hr
        rw [ile_iff] at h
        have h1 := an_lb_ok hT _ _ hr
        omega
      · cases h
    · have h1 := an_pr_ok hM h
      omega
  · cases h
