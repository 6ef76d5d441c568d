/-! measures, nodes, and a contract's check -/
abbrev an_Fm : Type := List (Nat × Int) × Int
def an_ins (s : Nat) (c : Int) : List (Nat × Int) → List (Nat × Int)
  | [] => [(s, c)]
  | q :: t => cond (Nat.beq q.1 s) ((s, q.2 + c) :: t) (q :: an_ins s c t)
def an_ev (ρ : List Int) : List (Nat × Int) → Int
  | [] => 0
  | q :: t => q.2 * ρ.getD q.1 0 + an_ev ρ t
theorem an_ins_ev (ρ : List Int) (s : Nat) (c : Int) : ∀ l : List (Nat × Int), an_ev ρ (an_ins s c l) = c * ρ.getD s 0 + an_ev ρ l
  | [] => rfl
  | q :: t => by
    unfold an_ins
    cases h : Nat.beq q.1 s with
    | true =>
      have h := Nat.beq_eq.mp h
      show (q.2 + c) * ρ.getD s 0 + an_ev ρ t = c * ρ.getD s 0 + (q.2 * ρ.getD q.1 0 + an_ev ρ t)
      rw [h, Int.add_mul]; omega
    | false =>
      show q.2 * ρ.getD q.1 0 + an_ev ρ (an_ins s c t) = c * ρ.getD s 0 + (q.2 * ρ.getD q.1 0 + an_ev ρ t)
      rw [an_ins_ev ρ s c t]; omega
def an_lb (T : an_T) : List (Nat × Int) → Option Int
  | [] => some 0
  | q :: t => match T[q.1]?, an_lb T t with
    | some b, some r => some (cond (ile 0 q.2) (q.2 * b.1) (q.2 * b.2) + r)
    | _, _ => none
theorem an_lb_ok {T : an_T} {ρ : List Int} (hT : an_rT T ρ) : ∀ (l : List (Nat × Int)) (r : Int), an_lb T l = some r → r ≤ an_ev ρ l
  | [], r, h => by cases h; exact Int.le_refl _
  | q :: t, r, h => by
    unfold an_lb at h
    split at h
    · rename_i b r' hb hr
      cases h
      have ih := an_lb_ok hT t r' hr
      have hs : q.1 < ρ.length := by rw [← hT.1]; exact (List.getElem?_eq_some_iff.mp hb).1
      have e : ρ[q.1]? = some (ρ.getD q.1 0) := by rw [List.getD_eq_getElem?_getD, List.getElem?_eq_getElem hs]; rfl
      obtain ⟨b1, b2⟩ := hT.2 q.1 b _ hb e
      show _ ≤ q.2 * ρ.getD q.1 0 + an_ev ρ t
      cases hc : ile 0 q.2 with
      | true =>
        rw [ile_iff] at hc
        have := Int.mul_le_mul_of_nonneg_left b1 hc
        dsimp only [cond_true]
        omega
      | false =>
        have hc : q.2 ≤ 0 := by
          rcases Int.le_total 0 q.2 with z | z
          · rw [ile_iff.mpr z] at hc; cases hc
          · exact z
        have := Int.mul_le_mul_of_nonpos_left hc b2
        dsimp only [cond_false]
        omega
    · cases h
def an_mf (k : Int) (ls : an_L) : List (Nat × Int) → an_Fm → Option an_Fm
  | [], f => some f
  | q :: t, f => match an_ld ls q.1 with
    | some (.inl (none, d)) => an_mf k ls t (f.1, f.2 + k * q.2 * d)
    | some (.inl (some s, d)) => an_mf k ls t (an_ins s (k * q.2) f.1, f.2 + k * q.2 * d)
    | _ => none
def an_mx (lc : sm_L) (i : Nat) : Int := match sm_ld lc i with
  | some (.int x) => x.toInt
  | _ => 0
def an_mv (lc : sm_L) : List (Nat × Int) → Int
  | [] => 0
  | q :: t => q.2 * an_mx lc q.1 + an_mv lc t
theorem an_mf_ok {ρ : List Int} {k : Int} {ls : an_L} {lc : sm_L} (hL : an_rL ρ ls lc) : ∀ (ts : List (Nat × Int)) (f f' : an_Fm), an_mf k ls ts f = some f' → an_ev ρ f'.1 + f'.2 = an_ev ρ f.1 + f.2 + k * an_mv lc ts := by
  intro ts
  induction ts with
  | nil => intro f f' h; cases h; simp [an_mv]
  | cons q t ih =>
    intro f f' h
    unfold an_mf at h
    have e0 : an_mv lc (q :: t) = q.2 * an_mx lc q.1 + an_mv lc t := rfl
    split at h
    · rename_i d hd
      obtain ⟨v, h1, x, rfl, h2⟩ := an_ld_c hL hd
      have e1 : an_mx lc q.1 = d := by unfold an_mx; rw [h1]; exact h2
      have := ih _ _ h
      rw [this, e0, e1, Int.mul_add, Int.mul_assoc]; dsimp only; omega
    · rename_i s d hd
      obtain ⟨v, h1, x, r, rfl, h3, h2⟩ := an_ld_c hL hd
      have e1 : an_mx lc q.1 = r + d := by unfold an_mx; rw [h1]; exact h2
      have e2 : ρ.getD s 0 = r := by rw [List.getD_eq_getElem?_getD, h3]; rfl
      have := ih _ _ h
      rw [this, e0, e1, an_ins_ev, e2]
      dsimp only
      rw [Int.mul_add, Int.mul_add, Int.mul_add, Int.mul_assoc, Int.mul_assoc]; omega
    · cases h
abbrev an_Nd : Type := Nat × an_L × List an_S × an_Z × List (Nat × Int) × Int
def an_dec (F : an_Fm) (n : an_Nd) (ls : an_L) (T : an_T) : Bool := match an_mf (-1) ls n.2.2.2.2.1 (F.1, F.2 - n.2.2.2.2.2) with
  | some f => match an_lb T f.1 with
    | some r => ile 1 (r + f.2)
    | none => false
  | none => false
def an_nc' (m : Nat) (F : Option an_Fm) (n : an_Nd) (ls : an_L) (st : List an_S) (Z : an_Z) : Bool := an_fits m ls st Z n.2.1 n.2.2.1 n.2.2.2.1 && (match F with
  | none => true
  | some F => an_dec F n ls Z.1)
def an_nd (m : Nat) (F : Option an_Fm) : List an_Nd → an_N
  | [], _ => none
  | n :: t, pc => cond (Nat.beq n.1 pc) (some (an_nc' m F n)) (an_nd m F t pc)
theorem an_nd_mem {m : Nat} {F : Option an_Fm} {pc : Nat} {c : an_L → List an_S → an_Z → Bool} : ∀ {N : List an_Nd}, an_nd m F N pc = some c → ∃ n ∈ N, n.1 = pc ∧ c = an_nc' m F n
  | n :: t, h => by
    unfold an_nd at h
    cases hb : Nat.beq n.1 pc with
    | true => rw [hb] at h; cases h; exact ⟨n, List.mem_cons_self, Nat.beq_eq.mp hb, rfl⟩
    | false =>
      rw [hb] at h
      obtain ⟨k, k1, k2⟩ := an_nd_mem (N := t) h
      exact ⟨k, List.mem_cons_of_mem _ k1, k2⟩
  | [], h => by cases h
theorem an_dec_ok {ρ : List Int} {F : an_Fm} {n : an_Nd} {ls : an_L} {lc : sm_L} {T : an_T} (hT : an_rT T ρ) (hL : an_rL ρ ls lc) (h : an_dec F n ls T = true) : an_mv lc n.2.2.2.2.1 + n.2.2.2.2.2 + 1 ≤ an_ev ρ F.1 + F.2 := by
  unfold an_dec at h
  split at h
  · rename_i f hf
    split at h
    · rename_i r hr
      rw [ile_iff] at h
      have h1 := an_lb_ok hT _ _ hr
      have h2 := an_mf_ok hL _ _ _ hf
      dsimp only at h2
      omega
    · cases h
  · cases h
