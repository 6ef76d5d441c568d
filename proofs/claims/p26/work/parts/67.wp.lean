/-! what must hold ahead of a place, or of a call, for Q behind it -/
noncomputable def wp_E (d : Nat) (cd : Nat → Option sm_I) (pc : Nat) (ls : sm_L) (st : List Value) (hp : sm_H) (Q : Option Value → sm_H → Prop) : Prop := ∃ v hp', EV d cd pc ls st hp v hp' ∧ Q v hp'
noncomputable def wp_M (d : Nat) (μ : Nat) (as : List Value) (hp : sm_H) (Q : Option Value → sm_H → Prop) : Prop := ∃ v hp', EM d μ as hp v hp' ∧ Q v hp'
noncomputable def sm_it (cd : Nat → Option sm_I) : Nat → Nat → sm_L → List Value → sm_H → Option (Nat × sm_L × List Value × sm_H)
  | 0, pc, ls, st, hp => some (pc, ls, st, hp)
  | n + 1, pc, ls, st, hp => match cd pc with
    | some q => (match sm_x q pc ls st hp with
      | some (.inl (p1, l1, s1, h1, 0, 0)) => sm_it cd n p1 l1 s1 h1
      | _ => none)
    | none => none
section WPS
variable {d pc : Nat} {cd : Nat → Option sm_I} {ls : sm_L} {st : List Value} {hp : sm_H} {Q : Option Value → sm_H → Prop} {idx n a b : Nat}
theorem q_s {q : sm_I} {pc1 : Nat} {ls1 : sm_L} {st1 : List Value} {hp1 : sm_H} (hq : cd pc = some q) (h : sm_x q pc ls st hp = some (.inl (pc1, ls1, st1, hp1, 0, 0))) (k : wp_E d cd pc1 ls1 st1 hp1 Q) : wp_E d cd pc ls st hp Q := by
  obtain ⟨v, hp', h1, h2⟩ := k
  exact ⟨v, hp', ev_step hq h h1, h2⟩
theorem q_it : ∀ (m pc : Nat) (ls : sm_L) (st : List Value) (hp : sm_H) (pc1 : Nat) (ls1 : sm_L) (st1 : List Value) (hp1 : sm_H), sm_it cd m pc ls st hp = some (pc1, ls1, st1, hp1) → wp_E d cd pc1 ls1 st1 hp1 Q → wp_E d cd pc ls st hp Q := by
  intro m
  induction m with
  | zero =>
    intro pc ls st hp pc1 ls1 st1 hp1 h k
    cases h
    exact k
  | succ m ih =>
    intro pc ls st hp pc1 ls1 st1 hp1 h k
    unfold sm_it at h
    split at h
    · rename_i q hq
      split at h
      · rename_i p1 l1 s1 h1 hx
        exact q_s hq hx (ih _ _ _ _ _ _ _ _ h k)
      · cases h
    · cases h
theorem q_n (m : Nat) {pc1 : Nat} {ls1 : sm_L} {st1 : List Value} {hp1 : sm_H} (h : sm_it cd m pc ls st hp = some (pc1, ls1, st1, hp1)) (k : wp_E d cd pc1 ls1 st1 hp1 Q) : wp_E d cd pc ls st hp Q := q_it m _ _ _ _ _ _ _ _ h k
theorem q_c {q : sm_I} {μ : Nat} {as r : List Value} (hq : cd pc = some q) (h : sm_x q pc ls st hp = some (.inr (.inl (μ, as, r)))) (hm : wp_M d μ as hp (fun w hp1 => wp_E d cd (pc + 3) ls (w.toList ++ r) hp1 Q)) : wp_E d cd pc ls st hp Q := by
  obtain ⟨w, hp1, h1, v, hp', h2, h3⟩ := hm
  exact ⟨v, hp', ev_call hq h h1 h2, h3⟩
theorem q_r {q : sm_I} {v : Option Value} (hq : cd pc = some q) (h : sm_x q pc ls st hp = some (.inr (.inr v))) (hQ : Q v hp) : wp_E d cd pc ls st hp Q := ⟨v, hp, ev_ret hq h, hQ⟩
theorem q_m {μ : Nat} {as : List Value} {E : sm_M} (hE : sm_mt μ = some E) (hl : (sm_loc as 0).length ≤ E.2.2.1 ∧ E.2.2.1 ≤ 45) (k : wp_E d E.2.2.2.2.2.2.2.2 0 (sm_loc as E.2.2.1) [] hp Q) : wp_M (d + 1) μ as hp Q := by
  obtain ⟨v, hp', h1, h2⟩ := k
  exact ⟨v, hp', em_in hE hl h1, h2⟩
theorem q_mono {μ : Nat} {as : List Value} {Q' : Option Value → sm_H → Prop} (h : wp_M d μ as hp Q) (hQ : ∀ v hp', Q v hp' → Q' v hp') : wp_M d μ as hp Q' := by
  obtain ⟨v, hp', h1, h2⟩ := h
  exact ⟨v, hp', h1, hQ v hp' h2⟩
theorem q_up {d' μ : Nat} {as : List Value} (h : wp_M d μ as hp Q) (hd : d ≤ d') : wp_M d' μ as hp Q := by
  obtain ⟨v, hp', h1, h2⟩ := h
  exact ⟨v, hp', em_up h1 hd, h2⟩
/-- branches, by the numbers' own order -/
theorem q_eq {x y : Int32} {off : Int} (hq : cd pc = some (.if_icmp .eq off, n, a, b)) {p3 : Nat} (h3 : pc + 3 = p3) (h1 : x = y → wp_E d cd a ls st hp Q) (h2 : ¬ x = y → wp_E d cd p3 ls st hp Q) : wp_E d cd pc ls (.int y :: .int x :: st) hp Q := by
  subst h3
  by_cases h : x = y
  · exact q_s hq (show sm_icmp (.int y :: .int x :: st) .eq a pc ls hp = some (.inl (a, ls, st, hp, 0, 0)) by simp [sm_icmp, sm_c2, h, sm_n]) (h1 h)
  · exact q_s hq (show sm_icmp (.int y :: .int x :: st) .eq a pc ls hp = some (.inl (pc + 3, ls, st, hp, 0, 0)) by simp [sm_icmp, sm_c2, h, sm_n]) (h2 h)
theorem q_ne {x y : Int32} {off : Int} (hq : cd pc = some (.if_icmp .ne off, n, a, b)) {p3 : Nat} (h3 : pc + 3 = p3) (h1 : ¬ x = y → wp_E d cd a ls st hp Q) (h2 : x = y → wp_E d cd p3 ls st hp Q) : wp_E d cd pc ls (.int y :: .int x :: st) hp Q := by
  subst h3
  by_cases h : x = y
  · exact q_s hq (show sm_icmp (.int y :: .int x :: st) .ne a pc ls hp = some (.inl (pc + 3, ls, st, hp, 0, 0)) by simp [sm_icmp, sm_c2, h, sm_n]) (h2 h)
  · exact q_s hq (show sm_icmp (.int y :: .int x :: st) .ne a pc ls hp = some (.inl (a, ls, st, hp, 0, 0)) by simp [sm_icmp, sm_c2, h, sm_n]) (h1 h)
theorem q_lt {x y : Int32} {off : Int} (hq : cd pc = some (.if_icmp .lt off, n, a, b)) {p3 : Nat} (h3 : pc + 3 = p3) (h1 : x.toInt < y.toInt → wp_E d cd a ls st hp Q) (h2 : y.toInt ≤ x.toInt → wp_E d cd p3 ls st hp Q) : wp_E d cd pc ls (.int y :: .int x :: st) hp Q := by
  subst h3
  by_cases h : x.toInt < y.toInt
  · exact q_s hq (show sm_icmp (.int y :: .int x :: st) .lt a pc ls hp = some (.inl (a, ls, st, hp, 0, 0)) by simp [sm_icmp, sm_c2, Int32.lt_iff_toInt_lt, h, sm_n]) (h1 h)
  · exact q_s hq (show sm_icmp (.int y :: .int x :: st) .lt a pc ls hp = some (.inl (pc + 3, ls, st, hp, 0, 0)) by simp [sm_icmp, sm_c2, Int32.lt_iff_toInt_lt, h, sm_n]) (h2 (by omega))
theorem q_ge {x y : Int32} {off : Int} (hq : cd pc = some (.if_icmp .ge off, n, a, b)) {p3 : Nat} (h3 : pc + 3 = p3) (h1 : y.toInt ≤ x.toInt → wp_E d cd a ls st hp Q) (h2 : x.toInt < y.toInt → wp_E d cd p3 ls st hp Q) : wp_E d cd pc ls (.int y :: .int x :: st) hp Q := by
  subst h3
  by_cases h : y.toInt ≤ x.toInt
  · exact q_s hq (show sm_icmp (.int y :: .int x :: st) .ge a pc ls hp = some (.inl (a, ls, st, hp, 0, 0)) by simp [sm_icmp, sm_c2, Int32.le_iff_toInt_le, h, sm_n]) (h1 h)
  · exact q_s hq (show sm_icmp (.int y :: .int x :: st) .ge a pc ls hp = some (.inl (pc + 3, ls, st, hp, 0, 0)) by simp [sm_icmp, sm_c2, Int32.le_iff_toInt_le, h, sm_n]) (h2 (by omega))
theorem q_gt {x y : Int32} {off : Int} (hq : cd pc = some (.if_icmp .gt off, n, a, b)) {p3 : Nat} (h3 : pc + 3 = p3) (h1 : y.toInt < x.toInt → wp_E d cd a ls st hp Q) (h2 : x.toInt ≤ y.toInt → wp_E d cd p3 ls st hp Q) : wp_E d cd pc ls (.int y :: .int x :: st) hp Q := by
  subst h3
  by_cases h : y.toInt < x.toInt
  · exact q_s hq (show sm_icmp (.int y :: .int x :: st) .gt a pc ls hp = some (.inl (a, ls, st, hp, 0, 0)) by simp [sm_icmp, sm_c2, Int32.lt_iff_toInt_lt, h, sm_n]) (h1 h)
  · exact q_s hq (show sm_icmp (.int y :: .int x :: st) .gt a pc ls hp = some (.inl (pc + 3, ls, st, hp, 0, 0)) by simp [sm_icmp, sm_c2, Int32.lt_iff_toInt_lt, h, sm_n]) (h2 (by omega))
theorem q_le {x y : Int32} {off : Int} (hq : cd pc = some (.if_icmp .le off, n, a, b)) {p3 : Nat} (h3 : pc + 3 = p3) (h1 : x.toInt ≤ y.toInt → wp_E d cd a ls st hp Q) (h2 : y.toInt < x.toInt → wp_E d cd p3 ls st hp Q) : wp_E d cd pc ls (.int y :: .int x :: st) hp Q := by
  subst h3
  by_cases h : x.toInt ≤ y.toInt
  · exact q_s hq (show sm_icmp (.int y :: .int x :: st) .le a pc ls hp = some (.inl (a, ls, st, hp, 0, 0)) by simp [sm_icmp, sm_c2, Int32.le_iff_toInt_le, h, sm_n]) (h1 h)
  · exact q_s hq (show sm_icmp (.int y :: .int x :: st) .le a pc ls hp = some (.inl (pc + 3, ls, st, hp, 0, 0)) by simp [sm_icmp, sm_c2, Int32.le_iff_toInt_le, h, sm_n]) (h2 (by omega))
theorem q_zeq {x : Int32} {off : Int} (hq : cd pc = some (.ifCond .eq off, n, a, b)) {p3 : Nat} (h3 : pc + 3 = p3) (h1 : x = 0 → wp_E d cd a ls st hp Q) (h2 : ¬ x = 0 → wp_E d cd p3 ls st hp Q) : wp_E d cd pc ls (.int x :: st) hp Q := by
  subst h3
  by_cases h : x = 0
  · exact q_s hq (show sm_if (.int x :: st) .eq a pc ls hp = some (.inl (a, ls, st, hp, 0, 0)) by simp [sm_if, sm_c0, h, sm_n]) (h1 h)
  · exact q_s hq (show sm_if (.int x :: st) .eq a pc ls hp = some (.inl (pc + 3, ls, st, hp, 0, 0)) by simp [sm_if, sm_c0, h, sm_n]) (h2 h)
theorem q_zne {x : Int32} {off : Int} (hq : cd pc = some (.ifCond .ne off, n, a, b)) {p3 : Nat} (h3 : pc + 3 = p3) (h1 : ¬ x = 0 → wp_E d cd a ls st hp Q) (h2 : x = 0 → wp_E d cd p3 ls st hp Q) : wp_E d cd pc ls (.int x :: st) hp Q := by
  subst h3
  by_cases h : x = 0
  · exact q_s hq (show sm_if (.int x :: st) .ne a pc ls hp = some (.inl (pc + 3, ls, st, hp, 0, 0)) by simp [sm_if, sm_c0, h, sm_n]) (h2 h)
  · exact q_s hq (show sm_if (.int x :: st) .ne a pc ls hp = some (.inl (a, ls, st, hp, 0, 0)) by simp [sm_if, sm_c0, h, sm_n]) (h1 h)
theorem q_zlt {x : Int32} {off : Int} (hq : cd pc = some (.ifCond .lt off, n, a, b)) {p3 : Nat} (h3 : pc + 3 = p3) (h1 : x.toInt < 0 → wp_E d cd a ls st hp Q) (h2 : 0 ≤ x.toInt → wp_E d cd p3 ls st hp Q) : wp_E d cd pc ls (.int x :: st) hp Q := by
  subst h3
  have e0 : (0 : Int32).toInt = 0 := rfl
  by_cases h : x.toInt < 0
  · exact q_s hq (show sm_if (.int x :: st) .lt a pc ls hp = some (.inl (a, ls, st, hp, 0, 0)) by simp [sm_if, sm_c0, Int32.lt_iff_toInt_lt, h, sm_n]) (h1 h)
  · exact q_s hq (show sm_if (.int x :: st) .lt a pc ls hp = some (.inl (pc + 3, ls, st, hp, 0, 0)) by simp [sm_if, sm_c0, Int32.lt_iff_toInt_lt, h, sm_n]) (h2 (by omega))
theorem q_zge {x : Int32} {off : Int} (hq : cd pc = some (.ifCond .ge off, n, a, b)) {p3 : Nat} (h3 : pc + 3 = p3) (h1 : 0 ≤ x.toInt → wp_E d cd a ls st hp Q) (h2 : x.toInt < 0 → wp_E d cd p3 ls st hp Q) : wp_E d cd pc ls (.int x :: st) hp Q := by
  subst h3
  by_cases h : 0 ≤ x.toInt
  · exact q_s hq (show sm_if (.int x :: st) .ge a pc ls hp = some (.inl (a, ls, st, hp, 0, 0)) by simp [sm_if, sm_c0, Int32.le_iff_toInt_le, h, sm_n]) (h1 h)
  · exact q_s hq (show sm_if (.int x :: st) .ge a pc ls hp = some (.inl (pc + 3, ls, st, hp, 0, 0)) by simp [sm_if, sm_c0, Int32.le_iff_toInt_le, h, sm_n]) (h2 (by omega))
theorem q_zgt {x : Int32} {off : Int} (hq : cd pc = some (.ifCond .gt off, n, a, b)) {p3 : Nat} (h3 : pc + 3 = p3) (h1 : 0 < x.toInt → wp_E d cd a ls st hp Q) (h2 : x.toInt ≤ 0 → wp_E d cd p3 ls st hp Q) : wp_E d cd pc ls (.int x :: st) hp Q := by
  subst h3
  by_cases h : 0 < x.toInt
  · exact q_s hq (show sm_if (.int x :: st) .gt a pc ls hp = some (.inl (a, ls, st, hp, 0, 0)) by simp [sm_if, sm_c0, Int32.lt_iff_toInt_lt, h, sm_n]) (h1 h)
  · exact q_s hq (show sm_if (.int x :: st) .gt a pc ls hp = some (.inl (pc + 3, ls, st, hp, 0, 0)) by simp [sm_if, sm_c0, Int32.lt_iff_toInt_lt, h, sm_n]) (h2 (by omega))
theorem q_zle {x : Int32} {off : Int} (hq : cd pc = some (.ifCond .le off, n, a, b)) {p3 : Nat} (h3 : pc + 3 = p3) (h1 : x.toInt ≤ 0 → wp_E d cd a ls st hp Q) (h2 : 0 < x.toInt → wp_E d cd p3 ls st hp Q) : wp_E d cd pc ls (.int x :: st) hp Q := by
  subst h3
  by_cases h : x.toInt ≤ 0
  · exact q_s hq (show sm_if (.int x :: st) .le a pc ls hp = some (.inl (a, ls, st, hp, 0, 0)) by simp [sm_if, sm_c0, Int32.le_iff_toInt_le, h, sm_n]) (h1 h)
  · exact q_s hq (show sm_if (.int x :: st) .le a pc ls hp = some (.inl (pc + 3, ls, st, hp, 0, 0)) by simp [sm_if, sm_c0, Int32.le_iff_toInt_le, h, sm_n]) (h2 (by omega))
/-- arrays -/
theorem q_ix {i : Int32} {α : Type} {l : List α} (h : 0 ≤ i.toInt ∧ i.toInt < l.length) : ¬ i < 0 ∧ i.toNatClampNeg = i.toInt.toNat ∧ i.toInt.toNat < l.length := ⟨fun z => by
  rw [Int32.lt_iff_toInt_lt] at z
  have e0 : (0 : Int32).toInt = 0 := rfl
  omega, rfl, by omega⟩
theorem q_gd {α : Type} {l : List α} {k : Nat} {x : α} (h : k < l.length) : l[k]? = some (l.getD k x) := by
  rw [List.getD_eq_getElem?_getD, List.getElem?_eq_getElem h]
  rfl
theorem q_al {k : Nat} {i : Int32} {l : List Int32} (hq : cd pc = some (.iaload, n, a, b)) (hk : hp[k]? = some (.inl (0, .inl l))) {p1 : Nat} (h1 : pc + 1 = p1) (hs : 0 ≤ i.toInt ∧ i.toInt < l.length) (kk : wp_E d cd p1 ls (.int (l.getD i.toInt.toNat 0) :: st) hp Q) : wp_E d cd pc ls (.int i :: .ref k :: st) hp Q := by
  subst h1
  obtain ⟨v, hp', e1, e2⟩ := kk
  obtain ⟨z1, z2, z3⟩ := q_ix hs
  exact ⟨v, hp', ev_al hq hk z1 (by rw [z2]; exact q_gd z3) e1, e2⟩
theorem q_bl {k : Nat} {i : Int32} {l : List Int32} (hq : cd pc = some (.baload, n, a, b)) (hk : hp[k]? = some (.inl (2, .inl l))) {p1 : Nat} (h1 : pc + 1 = p1) (hs : 0 ≤ i.toInt ∧ i.toInt < l.length) (kk : wp_E d cd p1 ls (.int (l.getD i.toInt.toNat 0) :: st) hp Q) : wp_E d cd pc ls (.int i :: .ref k :: st) hp Q := by
  subst h1
  obtain ⟨v, hp', e1, e2⟩ := kk
  obtain ⟨z1, z2, z3⟩ := q_ix hs
  exact ⟨v, hp', ev_bl hq hk z1 (by rw [z2]; exact q_gd z3) e1, e2⟩
theorem q_ll {k : Nat} {i : Int32} {l : List Int64} (hq : cd pc = some (.laload, n, a, b)) (hk : hp[k]? = some (.inl (1, .inr l))) {p1 : Nat} (h1 : pc + 1 = p1) (hs : 0 ≤ i.toInt ∧ i.toInt < l.length) (kk : wp_E d cd p1 ls (.long (l.getD i.toInt.toNat 0) :: st) hp Q) : wp_E d cd pc ls (.int i :: .ref k :: st) hp Q := by
  subst h1
  obtain ⟨v, hp', e1, e2⟩ := kk
  obtain ⟨z1, z2, z3⟩ := q_ix hs
  exact ⟨v, hp', ev_ll hq hk z1 (by rw [z2]; exact q_gd z3) e1, e2⟩
theorem q_as {k : Nat} {i x : Int32} {l : List Int32} {hp1 : sm_H} (hq : cd pc = some (.iastore, n, a, b)) (hk : hp[k]? = some (.inl (0, .inl l))) {p1 : Nat} (h1 : pc + 1 = p1) (hs : 0 ≤ i.toInt ∧ i.toInt < l.length) (hh : hp.set k (.inl (0, .inl (l.set i.toInt.toNat x))) = hp1) (kk : wp_E d cd p1 ls st hp1 Q) : wp_E d cd pc ls (.int x :: .int i :: .ref k :: st) hp Q := by
  subst h1
  subst hh
  obtain ⟨v, hp', e1, e2⟩ := kk
  obtain ⟨z1, z2, z3⟩ := q_ix hs
  exact ⟨v, hp', ev_as hq hk z1 (by rw [z2]; exact z3) (by rw [z2]; exact e1), e2⟩
theorem q_bs {k : Nat} {i x : Int32} {l : List Int32} {hp1 : sm_H} (hq : cd pc = some (.bastore, n, a, b)) (hk : hp[k]? = some (.inl (2, .inl l))) {p1 : Nat} (h1 : pc + 1 = p1) (hs : 0 ≤ i.toInt ∧ i.toInt < l.length) (hh : hp.set k (.inl (2, .inl (l.set i.toInt.toNat (vp_nar .byte x)))) = hp1) (kk : wp_E d cd p1 ls st hp1 Q) : wp_E d cd pc ls (.int x :: .int i :: .ref k :: st) hp Q := by
  subst h1
  subst hh
  obtain ⟨v, hp', e1, e2⟩ := kk
  obtain ⟨z1, z2, z3⟩ := q_ix hs
  exact ⟨v, hp', ev_bs hq hk z1 (by rw [z2]; exact z3) (by rw [z2]; exact e1), e2⟩
theorem q_ls {k : Nat} {i : Int32} {x : Int64} {l : List Int64} {hp1 : sm_H} (hq : cd pc = some (.lastore, n, a, b)) (hk : hp[k]? = some (.inl (1, .inr l))) {p1 : Nat} (h1 : pc + 1 = p1) (hs : 0 ≤ i.toInt ∧ i.toInt < l.length) (hh : hp.set k (.inl (1, .inr (l.set i.toInt.toNat x))) = hp1) (kk : wp_E d cd p1 ls st hp1 Q) : wp_E d cd pc ls (.long x :: .int i :: .ref k :: st) hp Q := by
  subst h1
  subst hh
  obtain ⟨v, hp', e1, e2⟩ := kk
  obtain ⟨z1, z2, z3⟩ := q_ix hs
  exact ⟨v, hp', ev_ls hq hk z1 (by rw [z2]; exact z3) (by rw [z2]; exact e1), e2⟩
theorem q_pf {k : Nat} {fs : List Value} {w : Value} {hp1 : sm_H} (hq : cd pc = some (.putfield idx, n, a, b)) (hk : hp[k]? = some (.inr (a, fs))) {p3 : Nat} (h3 : pc + 3 = p3) (hb : b < fs.length) (hf : sm_fit a b w = true) (hh : hp.set k (.inr (a, fs.set b w)) = hp1) (kk : wp_E d cd p3 ls st hp1 Q) : wp_E d cd pc ls (w :: .ref k :: st) hp Q := by
  subst h3
  subst hh
  obtain ⟨v, hp', e1, e2⟩ := kk
  exact ⟨v, hp', ev_pf hq hk hb hf e1, e2⟩
/-- a division -/
theorem q_dv {x y : Int32} (hq : cd pc = some (.idiv, n, a, b)) {p1 : Nat} (h1 : pc + 1 = p1) (hy : ¬ y = 0) (kk : wp_E d cd p1 ls (.int (x / y) :: st) hp Q) : wp_E d cd pc ls (.int y :: .int x :: st) hp Q := by
  subst h1
  exact q_s hq (show sm_i2 (.int y :: .int x :: st) (fun x y => if y = 0 then none else some (.int (x / y))) pc ls hp = some (.inl (pc + 1, ls, .int (x / y) :: st, hp, 0, 0)) by simp [sm_i2, hy, sm_n]) kk
theorem q_rm {x y : Int32} (hq : cd pc = some (.irem, n, a, b)) {p1 : Nat} (h1 : pc + 1 = p1) (hy : ¬ y = 0) (kk : wp_E d cd p1 ls (.int (x - x / y * y) :: st) hp Q) : wp_E d cd pc ls (.int y :: .int x :: st) hp Q := by
  subst h1
  exact q_s hq (show sm_i2 (.int y :: .int x :: st) (fun x y => if y = 0 then none else some (.int (x - x / y * y))) pc ls hp = some (.inl (pc + 1, ls, .int (x - x / y * y) :: st, hp, 0, 0)) by simp [sm_i2, hy, sm_n]) kk
/-- a return of 0 or 1, or of any number -/
theorem q_ri {x : Int32} (hq : cd pc = some (.ireturn, n, a, 0)) (hQ : Q (some (.int x)) hp) : wp_E d cd pc ls [.int x] hp Q := q_r hq (show sm_ir [.int x] 0 = _ by simp [sm_ir]) hQ
theorem q_rz {x : Int32} (hq : cd pc = some (.ireturn, n, a, 1)) (hx : x = 0 ∨ x = 1) (hQ : Q (some (.int x)) hp) : wp_E d cd pc ls [.int x] hp Q := q_r hq (show sm_ir [.int x] 1 = _ by simp [sm_ir, hx]) hQ
end WPS
