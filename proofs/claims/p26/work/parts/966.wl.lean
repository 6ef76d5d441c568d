/-! partial correctness: what holds at the end of each run from a place, or of each call, that ends -/
noncomputable def wl_E (f B D : Nat) (cd : Nat → Option sm_I) (pc : Nat) (ls : sm_L) (st : List Value) (hp : sm_H) (Q : Option Value → sm_H → Prop) : Prop := ∀ (d N : Nat) (v : Option Value) (hp' : sm_H), d ≤ D → N ≤ B → sm_run (sm_call f d) cd N pc ls st hp 0 0 = some (v, hp', 0, 0) → Q v hp'
noncomputable def wl_M (f D μ : Nat) (as : List Value) (hp : sm_H) (Q : Option Value → sm_H → Prop) : Prop := ∀ (d : Nat) (v : Option Value) (hp' : sm_H), d ≤ D → sm_call f d μ as hp = some (v, hp', 0, 0) → Q v hp'
section WLS
variable {f B D pc : Nat} {cd : Nat → Option sm_I} {ls : sm_L} {st : List Value} {hp : sm_H} {Q : Option Value → sm_H → Prop} {idx n a b : Nat}
theorem ev_run {d N : Nat} {v : Option Value} {hp' : sm_H} {q : sm_I} (hq : cd pc = some q) (k : sm_run (sm_call f d) cd N pc ls st hp 0 0 = some (v, hp', 0, 0)) : ∃ n, N = n + 1 ∧ sm_nx (sm_call f d) (sm_run (sm_call f d) cd n) (sm_x q pc ls st hp) pc ls hp 0 0 = some (v, hp', 0, 0) := by
  match N, k with
  | 0, k =>
    have k : (none : Option sm_O) = some (v, hp', 0, 0) := k
    cases k
  | n + 1, k =>
    have h1 : sm_go (sm_call f d) (sm_run (sm_call f d) cd n) (cd pc) pc ls st hp 0 0 = some (v, hp', 0, 0) := k
    rw [hq] at h1
    exact ⟨n, rfl, h1⟩
/-- a step, counted -/
theorem w_s1 {q : sm_I} {pc1 : Nat} {ls1 : sm_L} {st1 : List Value} {hp1 : sm_H} (hq : cd pc = some q) (h : sm_x q pc ls st hp = some (.inl (pc1, ls1, st1, hp1, 0, 0))) (k : wl_E f B D cd pc1 ls1 st1 hp1 Q) : wl_E f (B + 1) D cd pc ls st hp Q := fun d N v hp' hD hN e => by
  obtain ⟨n, rfl, h1⟩ := ev_run hq e
  rw [h] at h1
  have h2 : sm_run (sm_call f d) cd n pc1 ls1 st1 hp1 0 0 = some (v, hp', 0, 0) := h1
  exact k d n v hp' hD (by omega) h2
theorem wl_le {B' : Nat} (h : B' ≤ B) (k : wl_E f B D cd pc ls st hp Q) : wl_E f B' D cd pc ls st hp Q := fun d N v hp' hD hN e => k d N v hp' hD (by omega) e
theorem w_s {q : sm_I} {pc1 : Nat} {ls1 : sm_L} {st1 : List Value} {hp1 : sm_H} (hq : cd pc = some q) (h : sm_x q pc ls st hp = some (.inl (pc1, ls1, st1, hp1, 0, 0))) (k : wl_E f B D cd pc1 ls1 st1 hp1 Q) : wl_E f B D cd pc ls st hp Q := wl_le (Nat.le_succ B) (w_s1 hq h k)
theorem w_x {q : sm_I} (hq : cd pc = some q) (h : sm_x q pc ls st hp = none) : wl_E f B D cd pc ls st hp Q := fun d N v hp' hD hN e => by
  obtain ⟨n, -, h1⟩ := ev_run hq e
  rw [h] at h1
  cases h1
theorem w_0 : wl_E f 0 D cd pc ls st hp Q := fun d N v hp' hD hN e => by
  obtain rfl : N = 0 := by omega
  have e : (none : Option sm_O) = some (v, hp', 0, 0) := e
  cases e
theorem w_it : ∀ (m pc : Nat) (ls : sm_L) (st : List Value) (hp : sm_H) (pc1 : Nat) (ls1 : sm_L) (st1 : List Value) (hp1 : sm_H), sm_it cd m pc ls st hp = some (pc1, ls1, st1, hp1) → wl_E f B D cd pc1 ls1 st1 hp1 Q → wl_E f B D cd pc ls st hp Q := by
  intro m
  induction m with
  | zero =>
    intro pc ls st hp pc1 ls1 st1 hp1 h k
    cases h
    exact k
  | succ m ih =>
    intro pc ls st hp pc1 ls1 st1 hp1 h k
    unfold sm_it at h
    split at h
    · rename_i q hq
      split at h
      · rename_i p1 l1 s1 h1 hx
        exact w_s hq hx (ih _ _ _ _ _ _ _ _ h k)
      · cases h
    · cases h
theorem w_n (m : Nat) {pc1 : Nat} {ls1 : sm_L} {st1 : List Value} {hp1 : sm_H} (h : sm_it cd m pc ls st hp = some (pc1, ls1, st1, hp1)) (k : wl_E f B D cd pc1 ls1 st1 hp1 Q) : wl_E f B D cd pc ls st hp Q := w_it m _ _ _ _ _ _ _ _ h k
theorem w_n1 {pc1 : Nat} {ls1 : sm_L} {st1 : List Value} {hp1 : sm_H} (h : sm_it cd 1 pc ls st hp = some (pc1, ls1, st1, hp1)) (k : wl_E f B D cd pc1 ls1 st1 hp1 Q) : wl_E f (B + 1) D cd pc ls st hp Q := by
  unfold sm_it at h
  split at h
  · rename_i q hq
    split at h
    · rename_i p1 l1 s1 h1 hx
      have h : some (p1, l1, s1, h1) = some (pc1, ls1, st1, hp1) := h
      cases h
      exact w_s1 hq hx k
    · cases h
  · cases h
theorem w_c {q : sm_I} {μ : Nat} {as r : List Value} (hq : cd pc = some q) (h : sm_x q pc ls st hp = some (.inr (.inl (μ, as, r)))) (hm : wl_M f D μ as hp (fun w hp1 => wl_E f B D cd (pc + 3) ls (w.toList ++ r) hp1 Q)) : wl_E f B D cd pc ls st hp Q := fun d N v hp' hD hN e => by
  obtain ⟨n, rfl, h1⟩ := ev_run hq e
  rw [h] at h1
  unfold sm_nx at h1
  dsimp only at h1
  split at h1
  · rename_i o ho
    split at h1
    · have hc := sm_mono n _ _ _ _ _ _ _ h1
      obtain ⟨w, hp1, c, s⟩ := o
      dsimp only at hc h1
      have c0 : c = 0 := by omega
      have s0 : s = 0 := by omega
      subst c0
      subst s0
      exact hm d w hp1 hD ho d n v hp' hD (by omega) h1
    · cases h1
  · cases h1
theorem w_r {q : sm_I} {v : Option Value} (hq : cd pc = some q) (h : sm_x q pc ls st hp = some (.inr (.inr v))) (hQ : Q v hp) : wl_E f B D cd pc ls st hp Q := fun d N w hp' hD hN e => by
  obtain ⟨n, -, h1⟩ := ev_run hq e
  rw [h] at h1
  have h2 : some (v, hp, 0, 0) = some (w, hp', 0, 0) := h1
  cases h2
  exact hQ
theorem w_m {μ : Nat} {as : List Value} {E : sm_M} (hE : sm_mt μ = some E) (k : wl_E f f (D - 1) E.2.2.2.2.2.2.2.2 0 (sm_loc as E.2.2.1) [] hp Q) : wl_M f D μ as hp Q := fun d v hp' hD e => by
  match d, e, hD with
  | 0, e, _ =>
    have h : (none : Option sm_O) = some (v, hp', 0, 0) := e
    cases h
  | d + 1, e, hD =>
    have h1 : (match sm_mt μ with
      | some E => if (sm_loc as 0).length ≤ E.2.2.1 ∧ E.2.2.1 ≤ 45 then sm_run (sm_call f d) E.2.2.2.2.2.2.2.2 f 0 (sm_loc as E.2.2.1) [] hp 0 0 else none
      | none => none) = some (v, hp', 0, 0) := e
    rw [hE] at h1
    dsimp only at h1
    split at h1
    · exact k d f v hp' (by omega) (Nat.le_refl _) h1
    · cases h1
theorem w_mono {μ : Nat} {as : List Value} {Q' : Option Value → sm_H → Prop} (h : wl_M f D μ as hp Q) (hQ : ∀ v hp', Q v hp' → Q' v hp') : wl_M f D μ as hp Q' := fun d v hp' hD e => hQ v hp' (h d v hp' hD e)
theorem w_m0 {μ : Nat} {as : List Value} : wl_M f 0 μ as hp Q := fun d v hp' hD e => by
  obtain rfl : d = 0 := by omega
  have h : (none : Option sm_O) = some (v, hp', 0, 0) := e
  cases h
/-- branches, by the numbers' own order -/
theorem w_eq {x y : Int32} {off : Int} (hq : cd pc = some (.if_icmp .eq off, n, a, b)) {p3 : Nat} (h3 : pc + 3 = p3) (h1 : x = y → wl_E f B D cd a ls st hp Q) (h2 : ¬ x = y → wl_E f B D cd p3 ls st hp Q) : wl_E f B D cd pc ls (.int y :: .int x :: st) hp Q := by
  subst h3
  by_cases h : x = y
  · exact w_s hq (show sm_icmp (.int y :: .int x :: st) .eq a pc ls hp = some (.inl (a, ls, st, hp, 0, 0)) by simp [sm_icmp, sm_c2, h, sm_n]) (h1 h)
  · exact w_s hq (show sm_icmp (.int y :: .int x :: st) .eq a pc ls hp = some (.inl (pc + 3, ls, st, hp, 0, 0)) by simp [sm_icmp, sm_c2, h, sm_n]) (h2 h)
theorem w_ne {x y : Int32} {off : Int} (hq : cd pc = some (.if_icmp .ne off, n, a, b)) {p3 : Nat} (h3 : pc + 3 = p3) (h1 : ¬ x = y → wl_E f B D cd a ls st hp Q) (h2 : x = y → wl_E f B D cd p3 ls st hp Q) : wl_E f B D cd pc ls (.int y :: .int x :: st) hp Q := by
  subst h3
  by_cases h : x = y
  · exact w_s hq (show sm_icmp (.int y :: .int x :: st) .ne a pc ls hp = some (.inl (pc + 3, ls, st, hp, 0, 0)) by simp [sm_icmp, sm_c2, h, sm_n]) (h2 h)
  · exact w_s hq (show sm_icmp (.int y :: .int x :: st) .ne a pc ls hp = some (.inl (a, ls, st, hp, 0, 0)) by simp [sm_icmp, sm_c2, h, sm_n]) (h1 h)
theorem w_lt {x y : Int32} {off : Int} (hq : cd pc = some (.if_icmp .lt off, n, a, b)) {p3 : Nat} (h3 : pc + 3 = p3) (h1 : x.toInt < y.toInt → wl_E f B D cd a ls st hp Q) (h2 : y.toInt ≤ x.toInt → wl_E f B D cd p3 ls st hp Q) : wl_E f B D cd pc ls (.int y :: .int x :: st) hp Q := by
  subst h3
  by_cases h : x.toInt < y.toInt
  · exact w_s hq (show sm_icmp (.int y :: .int x :: st) .lt a pc ls hp = some (.inl (a, ls, st, hp, 0, 0)) by simp [sm_icmp, sm_c2, Int32.lt_iff_toInt_lt, h, sm_n]) (h1 h)
  · exact w_s hq (show sm_icmp (.int y :: .int x :: st) .lt a pc ls hp = some (.inl (pc + 3, ls, st, hp, 0, 0)) by simp [sm_icmp, sm_c2, Int32.lt_iff_toInt_lt, h, sm_n]) (h2 (by omega))
theorem w_ge {x y : Int32} {off : Int} (hq : cd pc = some (.if_icmp .ge off, n, a, b)) {p3 : Nat} (h3 : pc + 3 = p3) (h1 : y.toInt ≤ x.toInt → wl_E f B D cd a ls st hp Q) (h2 : x.toInt < y.toInt → wl_E f B D cd p3 ls st hp Q) : wl_E f B D cd pc ls (.int y :: .int x :: st) hp Q := by
  subst h3
  by_cases h : y.toInt ≤ x.toInt
  · exact w_s hq (show sm_icmp (.int y :: .int x :: st) .ge a pc ls hp = some (.inl (a, ls, st, hp, 0, 0)) by simp [sm_icmp, sm_c2, Int32.le_iff_toInt_le, h, sm_n]) (h1 h)
  · exact w_s hq (show sm_icmp (.int y :: .int x :: st) .ge a pc ls hp = some (.inl (pc + 3, ls, st, hp, 0, 0)) by simp [sm_icmp, sm_c2, Int32.le_iff_toInt_le, h, sm_n]) (h2 (by omega))
theorem w_gt {x y : Int32} {off : Int} (hq : cd pc = some (.if_icmp .gt off, n, a, b)) {p3 : Nat} (h3 : pc + 3 = p3) (h1 : y.toInt < x.toInt → wl_E f B D cd a ls st hp Q) (h2 : x.toInt ≤ y.toInt → wl_E f B D cd p3 ls st hp Q) : wl_E f B D cd pc ls (.int y :: .int x :: st) hp Q := by
  subst h3
  by_cases h : y.toInt < x.toInt
  · exact w_s hq (show sm_icmp (.int y :: .int x :: st) .gt a pc ls hp = some (.inl (a, ls, st, hp, 0, 0)) by simp [sm_icmp, sm_c2, Int32.lt_iff_toInt_lt, h, sm_n]) (h1 h)
  · exact w_s hq (show sm_icmp (.int y :: .int x :: st) .gt a pc ls hp = some (.inl (pc + 3, ls, st, hp, 0, 0)) by simp [sm_icmp, sm_c2, Int32.lt_iff_toInt_lt, h, sm_n]) (h2 (by omega))
theorem w_le {x y : Int32} {off : Int} (hq : cd pc = some (.if_icmp .le off, n, a, b)) {p3 : Nat} (h3 : pc + 3 = p3) (h1 : x.toInt ≤ y.toInt → wl_E f B D cd a ls st hp Q) (h2 : y.toInt < x.toInt → wl_E f B D cd p3 ls st hp Q) : wl_E f B D cd pc ls (.int y :: .int x :: st) hp Q := by
  subst h3
  by_cases h : x.toInt ≤ y.toInt
  · exact w_s hq (show sm_icmp (.int y :: .int x :: st) .le a pc ls hp = some (.inl (a, ls, st, hp, 0, 0)) by simp [sm_icmp, sm_c2, Int32.le_iff_toInt_le, h, sm_n]) (h1 h)
  · exact w_s hq (show sm_icmp (.int y :: .int x :: st) .le a pc ls hp = some (.inl (pc + 3, ls, st, hp, 0, 0)) by simp [sm_icmp, sm_c2, Int32.le_iff_toInt_le, h, sm_n]) (h2 (by omega))
theorem w_zeq {x : Int32} {off : Int} (hq : cd pc = some (.ifCond .eq off, n, a, b)) {p3 : Nat} (h3 : pc + 3 = p3) (h1 : x = 0 → wl_E f B D cd a ls st hp Q) (h2 : ¬ x = 0 → wl_E f B D cd p3 ls st hp Q) : wl_E f B D cd pc ls (.int x :: st) hp Q := by
  subst h3
  by_cases h : x = 0
  · exact w_s hq (show sm_if (.int x :: st) .eq a pc ls hp = some (.inl (a, ls, st, hp, 0, 0)) by simp [sm_if, sm_c0, h, sm_n]) (h1 h)
  · exact w_s hq (show sm_if (.int x :: st) .eq a pc ls hp = some (.inl (pc + 3, ls, st, hp, 0, 0)) by simp [sm_if, sm_c0, h, sm_n]) (h2 h)
theorem w_zne {x : Int32} {off : Int} (hq : cd pc = some (.ifCond .ne off, n, a, b)) {p3 : Nat} (h3 : pc + 3 = p3) (h1 : ¬ x = 0 → wl_E f B D cd a ls st hp Q) (h2 : x = 0 → wl_E f B D cd p3 ls st hp Q) : wl_E f B D cd pc ls (.int x :: st) hp Q := by
  subst h3
  by_cases h : x = 0
  · exact w_s hq (show sm_if (.int x :: st) .ne a pc ls hp = some (.inl (pc + 3, ls, st, hp, 0, 0)) by simp [sm_if, sm_c0, h, sm_n]) (h2 h)
  · exact w_s hq (show sm_if (.int x :: st) .ne a pc ls hp = some (.inl (a, ls, st, hp, 0, 0)) by simp [sm_if, sm_c0, h, sm_n]) (h1 h)
theorem w_zlt {x : Int32} {off : Int} (hq : cd pc = some (.ifCond .lt off, n, a, b)) {p3 : Nat} (h3 : pc + 3 = p3) (h1 : x.toInt < 0 → wl_E f B D cd a ls st hp Q) (h2 : 0 ≤ x.toInt → wl_E f B D cd p3 ls st hp Q) : wl_E f B D cd pc ls (.int x :: st) hp Q := by
  subst h3
  have e0 : (0 : Int32).toInt = 0 := rfl
  by_cases h : x.toInt < 0
  · exact w_s hq (show sm_if (.int x :: st) .lt a pc ls hp = some (.inl (a, ls, st, hp, 0, 0)) by simp [sm_if, sm_c0, Int32.lt_iff_toInt_lt, h, sm_n]) (h1 h)
  · exact w_s hq (show sm_if (.int x :: st) .lt a pc ls hp = some (.inl (pc + 3, ls, st, hp, 0, 0)) by simp [sm_if, sm_c0, Int32.lt_iff_toInt_lt, h, sm_n]) (h2 (by omega))
theorem w_zge {x : Int32} {off : Int} (hq : cd pc = some (.ifCond .ge off, n, a, b)) {p3 : Nat} (h3 : pc + 3 = p3) (h1 : 0 ≤ x.toInt → wl_E f B D cd a ls st hp Q) (h2 : x.toInt < 0 → wl_E f B D cd p3 ls st hp Q) : wl_E f B D cd pc ls (.int x :: st) hp Q := by
  subst h3
  by_cases h : 0 ≤ x.toInt
  · exact w_s hq (show sm_if (.int x :: st) .ge a pc ls hp = some (.inl (a, ls, st, hp, 0, 0)) by simp [sm_if, sm_c0, Int32.le_iff_toInt_le, h, sm_n]) (h1 h)
  · exact w_s hq (show sm_if (.int x :: st) .ge a pc ls hp = some (.inl (pc + 3, ls, st, hp, 0, 0)) by simp [sm_if, sm_c0, Int32.le_iff_toInt_le, h, sm_n]) (h2 (by omega))
theorem w_zgt {x : Int32} {off : Int} (hq : cd pc = some (.ifCond .gt off, n, a, b)) {p3 : Nat} (h3 : pc + 3 = p3) (h1 : 0 < x.toInt → wl_E f B D cd a ls st hp Q) (h2 : x.toInt ≤ 0 → wl_E f B D cd p3 ls st hp Q) : wl_E f B D cd pc ls (.int x :: st) hp Q := by
  subst h3
  by_cases h : 0 < x.toInt
  · exact w_s hq (show sm_if (.int x :: st) .gt a pc ls hp = some (.inl (a, ls, st, hp, 0, 0)) by simp [sm_if, sm_c0, Int32.lt_iff_toInt_lt, h, sm_n]) (h1 h)
  · exact w_s hq (show sm_if (.int x :: st) .gt a pc ls hp = some (.inl (pc + 3, ls, st, hp, 0, 0)) by simp [sm_if, sm_c0, Int32.lt_iff_toInt_lt, h, sm_n]) (h2 (by omega))
theorem w_zle {x : Int32} {off : Int} (hq : cd pc = some (.ifCond .le off, n, a, b)) {p3 : Nat} (h3 : pc + 3 = p3) (h1 : x.toInt ≤ 0 → wl_E f B D cd a ls st hp Q) (h2 : 0 < x.toInt → wl_E f B D cd p3 ls st hp Q) : wl_E f B D cd pc ls (.int x :: st) hp Q := by
  subst h3
  by_cases h : x.toInt ≤ 0
  · exact w_s hq (show sm_if (.int x :: st) .le a pc ls hp = some (.inl (a, ls, st, hp, 0, 0)) by simp [sm_if, sm_c0, Int32.le_iff_toInt_le, h, sm_n]) (h1 h)
  · exact w_s hq (show sm_if (.int x :: st) .le a pc ls hp = some (.inl (pc + 3, ls, st, hp, 0, 0)) by simp [sm_if, sm_c0, Int32.le_iff_toInt_le, h, sm_n]) (h2 (by omega))
/-- arrays -/
theorem al_if {kd k : Nat} {i : Int32} {l : List Int32} (hk : hp[k]? = some (.inl (kd, .inl l))) : sm_al (.int i :: .ref k :: st) kd pc ls hp = if 0 ≤ i.toInt ∧ i.toInt < l.length then sm_n (pc + 1) ls (.int (l.getD i.toInt.toNat 0) :: st) hp else none := by
  unfold sm_al
  dsimp only
  rw [hk]
  dsimp only
  have e0 : (0 : Int32).toInt = 0 := rfl
  have e2 : i.toNatClampNeg = i.toInt.toNat := rfl
  by_cases hs : 0 ≤ i.toInt ∧ i.toInt < l.length
  · obtain ⟨z1, z2, z3⟩ := q_ix hs
    rw [if_pos hs, if_pos ⟨rfl, z1⟩, z2, q_gd (x := 0) z3]
  · rw [if_neg hs]
    by_cases z : i < 0
    · rw [if_neg (fun y => y.2 z)]
    · rw [if_pos ⟨rfl, z⟩, e2, List.getElem?_eq_none (by rw [Int32.lt_iff_toInt_lt] at z; omega)]
theorem ll_if {k : Nat} {i : Int32} {l : List Int64} (hk : hp[k]? = some (.inl (1, .inr l))) : sm_ll (.int i :: .ref k :: st) pc ls hp = if 0 ≤ i.toInt ∧ i.toInt < l.length then sm_n (pc + 1) ls (.long (l.getD i.toInt.toNat 0) :: st) hp else none := by
  unfold sm_ll
  dsimp only
  rw [hk]
  dsimp only
  have e0 : (0 : Int32).toInt = 0 := rfl
  have e2 : i.toNatClampNeg = i.toInt.toNat := rfl
  by_cases hs : 0 ≤ i.toInt ∧ i.toInt < l.length
  · obtain ⟨z1, z2, z3⟩ := q_ix hs
    rw [if_pos hs, if_pos ⟨rfl, z1⟩, z2, q_gd (x := 0) z3]
  · rw [if_neg hs]
    by_cases z : i < 0
    · rw [if_neg (fun y => y.2 z)]
    · rw [if_pos ⟨rfl, z⟩, e2, List.getElem?_eq_none (by rw [Int32.lt_iff_toInt_lt] at z; omega)]
theorem as_if {kd k : Nat} {i x : Int32} {l : List Int32} (hk : hp[k]? = some (.inl (kd, .inl l))) : sm_as (.int x :: .int i :: .ref k :: st) kd pc ls hp = if 0 ≤ i.toInt ∧ i.toInt < l.length then sm_n (pc + 1) ls st (hp.set k (.inl (kd, .inl (l.set i.toInt.toNat (if kd = 2 then vp_nar .byte x else x))))) else none := by
  unfold sm_as
  dsimp only
  rw [hk]
  dsimp only
  have e0 : (0 : Int32).toInt = 0 := rfl
  have e2 : i.toNatClampNeg = i.toInt.toNat := rfl
  by_cases hs : 0 ≤ i.toInt ∧ i.toInt < l.length
  · obtain ⟨z1, z2, z3⟩ := q_ix hs
    rw [if_pos hs, e2, if_pos ⟨rfl, z1, z3⟩]
  · rw [if_neg hs, if_neg (fun y => hs (by
      have y1 := y.2.1
      have y2 := y.2.2
      rw [Int32.lt_iff_toInt_lt] at y1
      rw [e2] at y2
      omega))]
theorem lls_if {k : Nat} {i : Int32} {x : Int64} {l : List Int64} (hk : hp[k]? = some (.inl (1, .inr l))) : sm_lls (.long x :: .int i :: .ref k :: st) pc ls hp = if 0 ≤ i.toInt ∧ i.toInt < l.length then sm_n (pc + 1) ls st (hp.set k (.inl (1, .inr (l.set i.toInt.toNat x)))) else none := by
  unfold sm_lls
  dsimp only
  rw [hk]
  dsimp only
  have e0 : (0 : Int32).toInt = 0 := rfl
  have e2 : i.toNatClampNeg = i.toInt.toNat := rfl
  by_cases hs : 0 ≤ i.toInt ∧ i.toInt < l.length
  · obtain ⟨z1, z2, z3⟩ := q_ix hs
    rw [if_pos hs, e2, if_pos ⟨rfl, z1, z3⟩]
  · rw [if_neg hs, if_neg (fun y => hs (by
      have y1 := y.2.1
      have y2 := y.2.2
      rw [Int32.lt_iff_toInt_lt] at y1
      rw [e2] at y2
      omega))]
theorem w_al {k : Nat} {i : Int32} {l : List Int32} (hq : cd pc = some (.iaload, n, a, b)) (hk : hp[k]? = some (.inl (0, .inl l))) {p1 : Nat} (h1 : pc + 1 = p1) (kk : (0 ≤ i.toInt ∧ i.toInt < l.length) → wl_E f B D cd p1 ls (.int (l.getD i.toInt.toNat 0) :: st) hp Q) : wl_E f B D cd pc ls (.int i :: .ref k :: st) hp Q := by
  subst h1
  by_cases hs : 0 ≤ i.toInt ∧ i.toInt < l.length
  · exact w_s hq (show sm_al (.int i :: .ref k :: st) 0 pc ls hp = _ by rw [al_if hk, if_pos hs]; rfl) (kk hs)
  · exact w_x hq (show sm_al (.int i :: .ref k :: st) 0 pc ls hp = _ by rw [al_if hk, if_neg hs])
theorem w_bl {k : Nat} {i : Int32} {l : List Int32} (hq : cd pc = some (.baload, n, a, b)) (hk : hp[k]? = some (.inl (2, .inl l))) {p1 : Nat} (h1 : pc + 1 = p1) (kk : (0 ≤ i.toInt ∧ i.toInt < l.length) → wl_E f B D cd p1 ls (.int (l.getD i.toInt.toNat 0) :: st) hp Q) : wl_E f B D cd pc ls (.int i :: .ref k :: st) hp Q := by
  subst h1
  by_cases hs : 0 ≤ i.toInt ∧ i.toInt < l.length
  · exact w_s hq (show sm_al (.int i :: .ref k :: st) 2 pc ls hp = _ by rw [al_if hk, if_pos hs]; rfl) (kk hs)
  · exact w_x hq (show sm_al (.int i :: .ref k :: st) 2 pc ls hp = _ by rw [al_if hk, if_neg hs])
theorem w_ll {k : Nat} {i : Int32} {l : List Int64} (hq : cd pc = some (.laload, n, a, b)) (hk : hp[k]? = some (.inl (1, .inr l))) {p1 : Nat} (h1 : pc + 1 = p1) (kk : (0 ≤ i.toInt ∧ i.toInt < l.length) → wl_E f B D cd p1 ls (.long (l.getD i.toInt.toNat 0) :: st) hp Q) : wl_E f B D cd pc ls (.int i :: .ref k :: st) hp Q := by
  subst h1
  by_cases hs : 0 ≤ i.toInt ∧ i.toInt < l.length
  · exact w_s hq (show sm_ll (.int i :: .ref k :: st) pc ls hp = _ by rw [ll_if hk, if_pos hs]; rfl) (kk hs)
  · exact w_x hq (show sm_ll (.int i :: .ref k :: st) pc ls hp = _ by rw [ll_if hk, if_neg hs])
theorem w_as {k : Nat} {i x : Int32} {l : List Int32} {hp1 : sm_H} (hq : cd pc = some (.iastore, n, a, b)) (hk : hp[k]? = some (.inl (0, .inl l))) {p1 : Nat} (h1 : pc + 1 = p1) (hh : hp.set k (.inl (0, .inl (l.set i.toInt.toNat x))) = hp1) (kk : (0 ≤ i.toInt ∧ i.toInt < l.length) → wl_E f B D cd p1 ls st hp1 Q) : wl_E f B D cd pc ls (.int x :: .int i :: .ref k :: st) hp Q := by
  subst h1
  subst hh
  by_cases hs : 0 ≤ i.toInt ∧ i.toInt < l.length
  · exact w_s hq (show sm_as (.int x :: .int i :: .ref k :: st) 0 pc ls hp = _ by rw [as_if hk, if_pos hs]; rfl) (kk hs)
  · exact w_x hq (show sm_as (.int x :: .int i :: .ref k :: st) 0 pc ls hp = _ by rw [as_if hk, if_neg hs])
theorem w_bs {k : Nat} {i x : Int32} {l : List Int32} {hp1 : sm_H} (hq : cd pc = some (.bastore, n, a, b)) (hk : hp[k]? = some (.inl (2, .inl l))) {p1 : Nat} (h1 : pc + 1 = p1) (hh : hp.set k (.inl (2, .inl (l.set i.toInt.toNat (vp_nar .byte x)))) = hp1) (kk : (0 ≤ i.toInt ∧ i.toInt < l.length) → wl_E f B D cd p1 ls st hp1 Q) : wl_E f B D cd pc ls (.int x :: .int i :: .ref k :: st) hp Q := by
  subst h1
  subst hh
  by_cases hs : 0 ≤ i.toInt ∧ i.toInt < l.length
  · exact w_s hq (show sm_as (.int x :: .int i :: .ref k :: st) 2 pc ls hp = _ by rw [as_if hk, if_pos hs]; rfl) (kk hs)
  · exact w_x hq (show sm_as (.int x :: .int i :: .ref k :: st) 2 pc ls hp = _ by rw [as_if hk, if_neg hs])
theorem w_ls {k : Nat} {i : Int32} {x : Int64} {l : List Int64} {hp1 : sm_H} (hq : cd pc = some (.lastore, n, a, b)) (hk : hp[k]? = some (.inl (1, .inr l))) {p1 : Nat} (h1 : pc + 1 = p1) (hh : hp.set k (.inl (1, .inr (l.set i.toInt.toNat x))) = hp1) (kk : (0 ≤ i.toInt ∧ i.toInt < l.length) → wl_E f B D cd p1 ls st hp1 Q) : wl_E f B D cd pc ls (.long x :: .int i :: .ref k :: st) hp Q := by
  subst h1
  subst hh
  by_cases hs : 0 ≤ i.toInt ∧ i.toInt < l.length
  · exact w_s hq (show sm_lls (.long x :: .int i :: .ref k :: st) pc ls hp = _ by rw [lls_if hk, if_pos hs]; rfl) (kk hs)
  · exact w_x hq (show sm_lls (.long x :: .int i :: .ref k :: st) pc ls hp = _ by rw [lls_if hk, if_neg hs])
theorem w_pf {k : Nat} {fs : List Value} {w : Value} {hp1 : sm_H} (hq : cd pc = some (.putfield idx, n, a, b)) (hk : hp[k]? = some (.inr (a, fs))) {p3 : Nat} (h3 : pc + 3 = p3) (hh : hp.set k (.inr (a, fs.set b w)) = hp1) (kk : wl_E f B D cd p3 ls st hp1 Q) : wl_E f B D cd pc ls (w :: .ref k :: st) hp Q := by
  subst h3
  subst hh
  by_cases hs : b < fs.length ∧ sm_fit a b w = true
  · exact w_s hq (show sm_pf (w :: .ref k :: st) a b pc ls hp = _ by
      unfold sm_pf
      dsimp only
      rw [hk]
      dsimp only
      rw [if_pos ⟨rfl, hs.1, hs.2⟩]
      rfl) kk
  · exact w_x hq (show sm_pf (w :: .ref k :: st) a b pc ls hp = _ by
      unfold sm_pf
      dsimp only
      rw [hk]
      dsimp only
      rw [if_neg (fun z => hs z.2)])
theorem w_dv {x y : Int32} (hq : cd pc = some (.idiv, n, a, b)) {p1 : Nat} (h1 : pc + 1 = p1) (kk : ¬ y = 0 → wl_E f B D cd p1 ls (.int (x / y) :: st) hp Q) : wl_E f B D cd pc ls (.int y :: .int x :: st) hp Q := by
  subst h1
  by_cases hy : y = 0
  · exact w_x hq (show sm_i2 (.int y :: .int x :: st) (fun x y => if y = 0 then none else some (.int (x / y))) pc ls hp = none by simp [sm_i2, hy])
  · exact w_s hq (show sm_i2 (.int y :: .int x :: st) (fun x y => if y = 0 then none else some (.int (x / y))) pc ls hp = some (.inl (pc + 1, ls, .int (x / y) :: st, hp, 0, 0)) by simp [sm_i2, hy, sm_n]) (kk hy)
theorem w_rm {x y : Int32} (hq : cd pc = some (.irem, n, a, b)) {p1 : Nat} (h1 : pc + 1 = p1) (kk : ¬ y = 0 → wl_E f B D cd p1 ls (.int (x - x / y * y) :: st) hp Q) : wl_E f B D cd pc ls (.int y :: .int x :: st) hp Q := by
  subst h1
  by_cases hy : y = 0
  · exact w_x hq (show sm_i2 (.int y :: .int x :: st) (fun x y => if y = 0 then none else some (.int (x - x / y * y))) pc ls hp = none by simp [sm_i2, hy])
  · exact w_s hq (show sm_i2 (.int y :: .int x :: st) (fun x y => if y = 0 then none else some (.int (x - x / y * y))) pc ls hp = some (.inl (pc + 1, ls, .int (x - x / y * y) :: st, hp, 0, 0)) by simp [sm_i2, hy, sm_n]) (kk hy)
theorem w_ri {x : Int32} (hq : cd pc = some (.ireturn, n, a, b)) (hQ : Q (some (.int x)) hp) : wl_E f B D cd pc ls [.int x] hp Q := by
  by_cases hs : b = 0 ∨ (b = 1 ∧ (x = 0 ∨ x = 1))
  · exact w_r hq (show sm_ir [.int x] b = _ from if_pos hs) hQ
  · exact w_x hq (show sm_ir [.int x] b = _ from if_neg hs)
/-- the place of a char in the String of the law's letters -/
theorem w_io {x : Int32} {i b1 : Nat} (hq : cd pc = some (.ldc i, n, 9998, b1)) (hb : sm_ld ls b1 = some (.int x)) {p7 : Nat} (h7 : pc + 7 = p7) (kk : wl_E f B D cd p7 ls (.int (sx_ixF (x.toUInt32 % 65536).toInt32 sx_b 0) :: st) hp Q) : wl_E f B D cd pc ls st hp Q := by
  subst h7
  have E : sm_x (.ldc i, n, 9998, b1) pc ls st hp = if sm_w st ≤ 8 then sm_n (pc + 7) ls (.int (sx_ixF (x.toUInt32 % 65536).toInt32 sx_b 0) :: st) hp else none := by
    show (if (9998 : Nat) = 9998 then sm_iof ls b1 pc st hp else sm_n (pc + 2) ls (.int (Int32.ofNat 9998) :: st) hp) = _
    rw [if_pos rfl]
    unfold sm_iof
    rw [hb]
  by_cases hs : sm_w st ≤ 8
  · rw [if_pos hs] at E
    exact w_s hq E kk
  · rw [if_neg hs] at E
    exact w_x hq E
/-- a piece of an array is copied -/
theorem w_ac {x sp dp : Int32} {kd ks : Nat} {u g : List Int32} {hp1 : sm_H} (hq : cd pc = some (.invokestatic idx, n, 9997, b)) (hf : hp[ks]? = some (.inl (0, .inl u))) (hg : hp[kd]? = some (.inl (0, .inl g))) {p3 : Nat} (h3 : pc + 3 = p3) (hh : hp.set kd (.inl (0, .inl (sm_cpy u g sp.toInt.toNat dp.toInt.toNat x.toInt.toNat))) = hp1) (kk : (0 ≤ sp.toInt ∧ 0 ≤ dp.toInt ∧ 0 ≤ x.toInt ∧ sp.toInt + x.toInt ≤ u.length ∧ dp.toInt + x.toInt ≤ g.length) → wl_E f B D cd p3 ls st hp1 Q) : wl_E f B D cd pc ls (.int x :: .int dp :: .ref kd :: .int sp :: .ref ks :: st) hp Q := by
  subst h3
  subst hh
  have e0 : (0 : Int32).toInt = 0 := rfl
  have E : sm_x (.invokestatic idx, n, 9997, b) pc ls (.int x :: .int dp :: .ref kd :: .int sp :: .ref ks :: st) hp = if 0 = 0 ∧ 0 = 0 ∧ ¬ sp < 0 ∧ ¬ dp < 0 ∧ ¬ x < 0 ∧ sp.toNatClampNeg + x.toNatClampNeg ≤ u.length ∧ dp.toNatClampNeg + x.toNatClampNeg ≤ g.length ∧ sm_w st ≤ 8 then sm_n (pc + 3) ls st (hp.set kd (.inl (0, .inl (sm_cpy u g sp.toNatClampNeg dp.toNatClampNeg x.toNatClampNeg)))) else none := by
    show sm_ac (.int x :: .int dp :: .ref kd :: .int sp :: .ref ks :: st) pc ls hp = _
    unfold sm_ac
    dsimp only
    rw [hf, hg]
  have e1 : sp.toNatClampNeg = sp.toInt.toNat := rfl
  have e2 : dp.toNatClampNeg = dp.toInt.toNat := rfl
  have e3 : x.toNatClampNeg = x.toInt.toNat := rfl
  rw [e1, e2, e3] at E
  by_cases hs : 0 = 0 ∧ 0 = 0 ∧ ¬ sp < 0 ∧ ¬ dp < 0 ∧ ¬ x < 0 ∧ sp.toInt.toNat + x.toInt.toNat ≤ u.length ∧ dp.toInt.toNat + x.toInt.toNat ≤ g.length ∧ sm_w st ≤ 8
  · rw [if_pos hs] at E
    obtain ⟨-, -, s1, s2, s3, s4, s5, -⟩ := hs
    rw [Int32.lt_iff_toInt_lt] at s1 s2 s3
    exact w_s hq E (kk ⟨by omega, by omega, by omega, by omega, by omega⟩)
  · rw [if_neg hs] at E
    exact w_x hq E
theorem w_acl {x sp dp : Int32} {kd ks : Nat} {u g : List Int64} {hp1 : sm_H} (hq : cd pc = some (.invokestatic idx, n, 9997, b)) (hf : hp[ks]? = some (.inl (1, .inr u))) (hg : hp[kd]? = some (.inl (1, .inr g))) {p3 : Nat} (h3 : pc + 3 = p3) (hh : hp.set kd (.inl (1, .inr (sm_cpy u g sp.toInt.toNat dp.toInt.toNat x.toInt.toNat))) = hp1) (kk : (0 ≤ sp.toInt ∧ 0 ≤ dp.toInt ∧ 0 ≤ x.toInt ∧ sp.toInt + x.toInt ≤ u.length ∧ dp.toInt + x.toInt ≤ g.length) → wl_E f B D cd p3 ls st hp1 Q) : wl_E f B D cd pc ls (.int x :: .int dp :: .ref kd :: .int sp :: .ref ks :: st) hp Q := by
  subst h3
  subst hh
  have e0 : (0 : Int32).toInt = 0 := rfl
  have E : sm_x (.invokestatic idx, n, 9997, b) pc ls (.int x :: .int dp :: .ref kd :: .int sp :: .ref ks :: st) hp = if 1 = 1 ∧ 1 = 1 ∧ ¬ sp < 0 ∧ ¬ dp < 0 ∧ ¬ x < 0 ∧ sp.toNatClampNeg + x.toNatClampNeg ≤ u.length ∧ dp.toNatClampNeg + x.toNatClampNeg ≤ g.length ∧ sm_w st ≤ 8 then sm_n (pc + 3) ls st (hp.set kd (.inl (1, .inr (sm_cpy u g sp.toNatClampNeg dp.toNatClampNeg x.toNatClampNeg)))) else none := by
    show sm_ac (.int x :: .int dp :: .ref kd :: .int sp :: .ref ks :: st) pc ls hp = _
    unfold sm_ac
    dsimp only
    rw [hf, hg]
  have e1 : sp.toNatClampNeg = sp.toInt.toNat := rfl
  have e2 : dp.toNatClampNeg = dp.toInt.toNat := rfl
  have e3 : x.toNatClampNeg = x.toInt.toNat := rfl
  rw [e1, e2, e3] at E
  by_cases hs : 1 = 1 ∧ 1 = 1 ∧ ¬ sp < 0 ∧ ¬ dp < 0 ∧ ¬ x < 0 ∧ sp.toInt.toNat + x.toInt.toNat ≤ u.length ∧ dp.toInt.toNat + x.toInt.toNat ≤ g.length ∧ sm_w st ≤ 8
  · rw [if_pos hs] at E
    obtain ⟨-, -, s1, s2, s3, s4, s5, -⟩ := hs
    rw [Int32.lt_iff_toInt_lt] at s1 s2 s3
    exact w_s hq E (kk ⟨by omega, by omega, by omega, by omega, by omega⟩)
  · rw [if_neg hs] at E
    exact w_x hq E
end WLS
/-- heaps that are the same at each number -/
theorem cvQ {Q : Option Value → sm_H → Prop} {v : Option Value} {F F' : Nat → Nat → Int32} {A A' : Nat → List Int32} {L L' : Nat → List Int64} (hF : F = F') (hA : A = A') (hL : L = L') (K : Q v (hz F A L)) : Q v (hz F' A' L') := by
  subst hF
  subst hA
  subst hL
  exact K
theorem cvE {f B D : Nat} {Q : Option Value → sm_H → Prop} {cd : Nat → Option sm_I} {pc : Nat} {ls : sm_L} {st : List Value} {F F' : Nat → Nat → Int32} {A A' : Nat → List Int32} {L L' : Nat → List Int64} (hF : F = F') (hA : A = A') (hL : L = L') (K : wl_E f B D cd pc ls st (hz F A L) Q) : wl_E f B D cd pc ls st (hz F' A' L') Q := by
  subst hF
  subst hA
  subst hL
  exact K
/-- counters -/
theorem i_up {i B : Int32} (h : i.toInt < B.toInt) : (i + 1).toInt = i.toInt + 1 := by
  have h1 := an_top i
  have h2 := an_top B
  exact an_add32 (y := 1) (by show _ ≤ _ + (1 : Int); omega) (by show _ + (1 : Int) ≤ _; omega)
theorem i_dn {i B : Int32} (h : B.toInt < i.toInt) : (i - 1).toInt = i.toInt - 1 := by
  have h1 := an_top i
  have h2 := an_top B
  exact an_sub32 (y := 1) (by show _ ≤ _ - (1 : Int); omega) (by show _ - (1 : Int) ≤ _; omega)
noncomputable def lt {α β : Type} (x : α) (h : α → β) : β := h x
theorem lt_e {α β : Type} (x : α) (h : α → β) : lt x h = h x := rfl
noncomputable def sE {α β γ : Type} (x : Sum α β) (g : α → γ) (h : β → γ) : γ := match x with
  | .inl a => g a
  | .inr b => h b
section WLT
variable {pc : Nat} {f B D : Nat} {cd : Nat → Option sm_I} {ls : sm_L} {st : List Value} {hp : sm_H} {Q : Option Value → sm_H → Prop} {idx n a b : Nat}
theorem w_k {x k : Int32} (hx : x = k) (kk : wl_E f B D cd pc ls (.int k :: st) hp Q) : wl_E f B D cd pc ls (.int x :: st) hp Q := by
  subst hx
  exact kk
theorem w_tsw {x : Int32} {d lo hi : Int} {offs : Array Int} (hq : cd pc = some (.tableswitch d lo hi offs, n, a, b)) (h : x.toInt < lo ∨ hi < x.toInt) {p1 : Nat} (h0 : 0 ≤ (pc : Int) + d) (h1 : ((pc : Int) + d).toNat = p1) (kk : wl_E f B D cd p1 ls st hp Q) : wl_E f B D cd pc ls (.int x :: st) hp Q := by
  subst h1
  exact w_s hq (show sm_tsw (.int x :: st) d lo hi offs pc ls hp = _ by
    unfold sm_tsw
    dsimp only
    rw [if_pos h]
    unfold sm_to
    rw [if_pos h0]
    rfl) kk
theorem w_lsw {x : Int32} {d : Int} {ps : Array (Int × Int)} (hq : cd pc = some (.lookupswitch d ps, n, a, b)) (hs : (ps.toList.zip (ps.toList.drop 1)).all (fun (a, next) => a.1 < next.1) = true) (ho : Op.lookupswitch.offset ps.toList d x.toInt = d) {p1 : Nat} (h0 : 0 ≤ (pc : Int) + d) (h1 : ((pc : Int) + d).toNat = p1) (kk : wl_E f B D cd p1 ls st hp Q) : wl_E f B D cd pc ls (.int x :: st) hp Q := by
  subst h1
  exact w_s hq (show sm_lsw (.int x :: st) d ps pc ls hp = _ by
    unfold sm_lsw
    dsimp only
    rw [if_pos hs, ho]
    unfold sm_to
    rw [if_pos h0]
    rfl) kk
end WLT
theorem nb1 {a k : Nat} (h : ¬ a = k) : Nat.beq a k = false := by
  cases e : Nat.beq a k with
  | true => exact absurd (Nat.beq_eq.mp e) h
  | false => rfl
theorem nb2 {a b k j : Nat} (h : ¬ (a = k ∧ b = j)) : (Nat.beq a k && Nat.beq b j) = false := by
  cases e : (Nat.beq a k && Nat.beq b j) with
  | true =>
    rw [Bool.and_eq_true, Nat.beq_eq, Nat.beq_eq] at e
    exact absurd e h
  | false => rfl
theorem i_up2 {i B : Int32} (h : i.toInt ≤ B.toInt) (hB : B.toInt < 2147483647) : (i + 1).toInt = i.toInt + 1 := by
  have h1 := an_top i
  exact an_add32 (y := 1) (by show _ ≤ _ + (1 : Int); omega) (by show _ + (1 : Int) ≤ _; omega)
theorem i_dn3 {i B : Int32} (h : B.toInt ≤ i.toInt) (hB : -2147483648 < B.toInt) : (i - 1).toInt = i.toInt - 1 := by
  have h1 := an_top i
  exact an_sub32 (y := 1) (by show _ ≤ _ - (1 : Int); omega) (by show _ - (1 : Int) ≤ _; omega)
theorem i_dn2 {i B : Int32} (h : B.toInt < i.toInt) : (i + (-1)).toInt = i.toInt - 1 := by
  have h1 := an_top i
  have h2 := an_top B
  exact an_add32 (y := -1) (by show _ ≤ _ + (-1 : Int); omega) (by show _ + (-1 : Int) ≤ _; omega)
theorem i_dn4 {i : Int32} (h : 0 ≤ i.toInt) : (i - 1).toInt = i.toInt - 1 := by
  have h1 := an_top i
  exact an_sub32 (y := 1) (by show _ ≤ _ - (1 : Int); omega) (by show _ - (1 : Int) ≤ _; omega)
theorem i_dn42 {i : Int32} (h : 0 ≤ i.toInt) : (i + (-1)).toInt = i.toInt - 1 := by
  have h1 := an_top i
  exact an_add32 (y := -1) (by show _ ≤ _ + (-1 : Int); omega) (by show _ + (-1 : Int) ≤ _; omega)
theorem i_dn32 {i B : Int32} (h : B.toInt ≤ i.toInt) (hB : -2147483648 < B.toInt) : (i + (-1)).toInt = i.toInt - 1 := by
  have h1 := an_top i
  exact an_add32 (y := -1) (by show _ ≤ _ + (-1 : Int); omega) (by show _ + (-1 : Int) ≤ _; omega)
