/-! runs with fuel enough: EV of a place in a method, EM of a call at most d deep -/
theorem sm_run_mono {cl cl' : sm_K} {cd : Nat → Option sm_I} (hcl : ∀ μ as hp o, cl μ as hp = some o → cl' μ as hp = some o) : ∀ (n pc : Nat) (ls : sm_L) (st : List Value) (hp : sm_H) (cc ss : Nat) (o : sm_O), sm_run cl cd n pc ls st hp cc ss = some o → ∀ n', n ≤ n' → sm_run cl' cd n' pc ls st hp cc ss = some o := by
  intro n
  induction n with
  | zero => intro pc ls st hp cc ss o h; cases h
  | succ n ih =>
    intro pc ls st hp cc ss o h n' hn
    obtain ⟨k, rfl⟩ : ∃ k, n' = k + 1 := ⟨n' - 1, by omega⟩
    have h : sm_go cl (sm_run cl cd n) (cd pc) pc ls st hp cc ss = some o := h
    show sm_go cl' (sm_run cl' cd k) (cd pc) pc ls st hp cc ss = some o
    unfold sm_go at h ⊢
    split at h
    · try dsimp only
      unfold sm_nx at h ⊢
      split at h
      · cases h
      · try dsimp only
        exact ih _ _ _ _ _ _ _ h k (by omega)
      · split at h
        · rename_i o1 ho1
          rw [hcl _ _ _ _ ho1]
          split at h
          · rename_i hc
            try dsimp only
            rw [if_pos hc]
            exact ih _ _ _ _ _ _ _ h k (by omega)
          · cases h
        · cases h
      · exact h
    · cases h
theorem sm_call_mono : ∀ (d n : Nat) (μ : Nat) (as : List Value) (hp : sm_H) (o : sm_O), sm_call n d μ as hp = some o → ∀ n' d', n ≤ n' → d ≤ d' → sm_call n' d' μ as hp = some o := by
  intro d
  induction d with
  | zero => intro n μ as hp o h; cases h
  | succ d ih =>
    intro n μ as hp o h n' d' hn hd
    obtain ⟨k, rfl⟩ : ∃ k, d' = k + 1 := ⟨d' - 1, by omega⟩
    have h : (match sm_mt μ with
      | some E => if (sm_loc as 0).length ≤ E.2.2.1 ∧ E.2.2.1 ≤ 45 then sm_run (sm_call n d) E.2.2.2.2.2.2.2.2 n 0 (sm_loc as E.2.2.1) [] hp 0 0 else none
      | none => none) = some o := h
    show (match sm_mt μ with
      | some E => if (sm_loc as 0).length ≤ E.2.2.1 ∧ E.2.2.1 ≤ 45 then sm_run (sm_call n' k) E.2.2.2.2.2.2.2.2 n' 0 (sm_loc as E.2.2.1) [] hp 0 0 else none
      | none => none) = some o
    split at h
    · split at h
      · rename_i hc
        try dsimp only
        rw [if_pos hc]
        exact sm_run_mono (fun μ as hp o h => ih n μ as hp o h n' k hn (by omega)) n 0 _ _ _ _ _ _ h n' hn
      · cases h
    · cases h
/-- with fuel enough, from here on the method (its calls at most d deep) ends so; nothing is new -/
noncomputable def EV (d : Nat) (cd : Nat → Option sm_I) (pc : Nat) (ls : sm_L) (st : List Value) (hp : sm_H) (v : Option Value) (hp' : sm_H) : Prop := ∃ N, ∀ n, N ≤ n → sm_run (sm_call n d) cd n pc ls st hp 0 0 = some (v, hp', 0, 0)
noncomputable def EM (d : Nat) (μ : Nat) (as : List Value) (hp : sm_H) (v : Option Value) (hp' : sm_H) : Prop := ∃ N, ∀ n, N ≤ n → sm_call n d μ as hp = some (v, hp', 0, 0)
section EVS
variable {d pc : Nat} {cd : Nat → Option sm_I} {ls : sm_L} {st : List Value} {hp hp' : sm_H} {v : Option Value}
theorem ev_step {q : sm_I} {pc1 : Nat} {ls1 : sm_L} {st1 : List Value} {hp1 : sm_H} (hq : cd pc = some q) (h : sm_x q pc ls st hp = some (.inl (pc1, ls1, st1, hp1, 0, 0))) (k : EV d cd pc1 ls1 st1 hp1 v hp') : EV d cd pc ls st hp v hp' := by
  obtain ⟨N, hN⟩ := k
  refine ⟨N + 1, fun n hn => ?_⟩
  obtain ⟨j, rfl⟩ : ∃ j, n = j + 1 := ⟨n - 1, by omega⟩
  have h1 := sm_run_mono (cl' := sm_call (j + 1) d) (fun μ as hp o h => sm_call_mono d j μ as hp o h (j + 1) d (by omega) (Nat.le_refl _)) j _ _ _ _ _ _ _ (hN j (by omega)) j (Nat.le_refl _)
  show sm_go (sm_call (j + 1) d) (sm_run (sm_call (j + 1) d) cd j) (cd pc) pc ls st hp 0 0 = _
  rw [hq]
  show sm_nx _ _ (sm_x q pc ls st hp) pc ls hp 0 0 = _
  rw [h]
  exact h1
theorem ev_call {q : sm_I} {μ : Nat} {as r : List Value} {w : Option Value} {hp1 : sm_H} (hq : cd pc = some q) (h : sm_x q pc ls st hp = some (.inr (.inl (μ, as, r)))) (hm : EM d μ as hp w hp1) (k : EV d cd (pc + 3) ls (w.toList ++ r) hp1 v hp') : EV d cd pc ls st hp v hp' := by
  obtain ⟨N, hN⟩ := k
  obtain ⟨M, hM⟩ := hm
  refine ⟨N + M + 1, fun n hn => ?_⟩
  obtain ⟨j, rfl⟩ : ∃ j, n = j + 1 := ⟨n - 1, by omega⟩
  have h1 := sm_run_mono (cl' := sm_call (j + 1) d) (fun μ as hp o h => sm_call_mono d j μ as hp o h (j + 1) d (by omega) (Nat.le_refl _)) j _ _ _ _ _ _ _ (hN j (by omega)) j (Nat.le_refl _)
  show sm_go (sm_call (j + 1) d) (sm_run (sm_call (j + 1) d) cd j) (cd pc) pc ls st hp 0 0 = _
  rw [hq]
  show sm_nx _ _ (sm_x q pc ls st hp) pc ls hp 0 0 = _
  rw [h]
  unfold sm_nx
  try dsimp only
  rw [hM (j + 1) (by omega)]
  try dsimp only
  rw [if_pos (Or.inl rfl)]
  exact h1
theorem ev_ret {q : sm_I} (hq : cd pc = some q) (h : sm_x q pc ls st hp = some (.inr (.inr v))) : EV d cd pc ls st hp v hp := by
  refine ⟨1, fun n hn => ?_⟩
  obtain ⟨j, rfl⟩ : ∃ j, n = j + 1 := ⟨n - 1, by omega⟩
  show sm_go (sm_call (j + 1) d) (sm_run (sm_call (j + 1) d) cd j) (cd pc) pc ls st hp 0 0 = _
  rw [hq]
  show sm_nx _ _ (sm_x q pc ls st hp) pc ls hp 0 0 = _
  rw [h]
  rfl
theorem ev_if {b : Bool} {p1 p2 : Nat} (h1 : b = true → EV d cd p1 ls st hp v hp') (h2 : b = false → EV d cd p2 ls st hp v hp') : EV d cd (cond b p1 p2) ls st hp v hp' := by
  cases b with
  | true => exact h1 rfl
  | false => exact h2 rfl
theorem em_in {μ : Nat} {as : List Value} {E : sm_M} (hE : sm_mt μ = some E) (hl : (sm_loc as 0).length ≤ E.2.2.1 ∧ E.2.2.1 ≤ 45) (k : EV d E.2.2.2.2.2.2.2.2 0 (sm_loc as E.2.2.1) [] hp v hp') : EM (d + 1) μ as hp v hp' := by
  obtain ⟨N, hN⟩ := k
  refine ⟨N, fun n hn => ?_⟩
  show (match sm_mt μ with
      | some E => if (sm_loc as 0).length ≤ E.2.2.1 ∧ E.2.2.1 ≤ 45 then sm_run (sm_call n d) E.2.2.2.2.2.2.2.2 n 0 (sm_loc as E.2.2.1) [] hp 0 0 else none
      | none => none) = _
  rw [hE]
  try dsimp only
  rw [if_pos hl]
  exact hN n hn
theorem em_up {d' μ : Nat} {as : List Value} (h : EM d μ as hp v hp') (hd : d ≤ d') : EM d' μ as hp v hp' := by
  obtain ⟨N, hN⟩ := h
  exact ⟨N, fun n hn => sm_call_mono d n μ as hp _ (hN n hn) n d' (Nat.le_refl _) hd⟩
theorem em_of {n μ : Nat} {as : List Value} (h : sm_call n d μ as hp = some (v, hp', 0, 0)) : EM d μ as hp v hp' := ⟨n, fun n' hn => sm_call_mono d n μ as hp _ h n' d hn (Nat.le_refl _)⟩
end EVS
