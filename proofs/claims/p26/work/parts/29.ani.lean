/-! calls that are walked in place -/
noncomputable def an_l0 : List an_S → an_L
  | [] => []
  | a :: t => cond (an_isl a) (some a :: none :: an_l0 t) (some a :: an_l0 t)
noncomputable def an_loc (as : List an_S) (n : Nat) : an_L := an_l0 as ++ List.replicate (n - (an_l0 as).length) none
noncomputable def an_inl (K : an_KT) (n : Nat) : an_KT := fun μ as Z => match sm_mt μ with
  | some E => cond (Nat.ble (an_l0 as).length E.2.2.1 && Nat.ble E.2.2.1 45) (an_ex K E.2.2.2.2.2.2.2.2 (fun _ => none) n 0 (an_loc as E.2.2.1) [] Z) none
  | none => none
noncomputable def an_kno : an_KT := fun _ _ _ => none
noncomputable def an_kor (s : Nat → Bool) (K1 K2 : an_KT) : an_KT := fun μ => cond (s μ) (K1 μ) (K2 μ)
section ANI
variable {ρ : List Int}
noncomputable def sm_l0 (vs : List Value) : sm_L := vs.flatMap (fun v => if v.category = 2 then [some v, none] else [some v])
theorem an_l0_ok : ∀ {as : List an_S} {vs : List Value}, an_rF ρ as vs → an_rL ρ (an_l0 as) (sm_l0 vs)
  | [], [], _ => ⟨rfl, fun i a h => by cases h⟩
  | a :: t, v :: u, h => by
    have ih := an_l0_ok h.2
    have e : sm_l0 (v :: u) = (if v.category = 2 then [some v, none] else [some v]) ++ sm_l0 u := rfl
    rw [e, an_l0]
    cases hl : an_isl a with
    | true =>
      rw [if_pos ((an_isl_cat h.1).1 hl)]
      exact an_rL_mk (fun b hb => by cases hb; exact ⟨v, rfl, h.1⟩) (an_rL_mk (fun b hb => by cases hb) ih)
    | false =>
      rw [if_neg (by rw [(an_isl_cat h.1).2 hl]; decide)]
      exact an_rL_mk (fun b hb => by cases hb; exact ⟨v, rfl, h.1⟩) ih
  | [], _ :: _, h => h.elim
  | _ :: _, [], h => h.elim
theorem an_rL_app {a b : an_L} {c d : sm_L} (h : an_rL ρ a c) (h' : an_rL ρ b d) : an_rL ρ (a ++ b) (c ++ d) := ⟨by rw [List.length_append, List.length_append, h.1, h'.1], fun i x hx => by
  by_cases hi : i < a.length
  · rw [List.getElem?_append_left hi] at hx
    rw [List.getElem?_append_left (by rw [← h.1]; exact hi)]
    exact h.2 i x hx
  · rw [List.getElem?_append_right (by omega)] at hx
    rw [List.getElem?_append_right (by rw [← h.1]; omega), ← h.1]
    exact h'.2 _ x hx⟩
theorem an_rL_none (n : Nat) : an_rL ρ (List.replicate n none) (List.replicate n none) := ⟨by simp, fun i a h => by
  rw [List.getElem?_replicate] at h
  split at h <;> cases h⟩
theorem an_loc_ok {as : List an_S} {vs : List Value} (n : Nat) (h : an_rF ρ as vs) : an_rL ρ (an_loc as n) (sm_loc vs n) ∧ (sm_loc vs 0).length = (an_l0 as).length := by
  have h0 := an_l0_ok h
  have e : ∀ n, sm_loc vs n = sm_l0 vs ++ List.replicate (n - (sm_l0 vs).length) none := fun _ => rfl
  refine ⟨?_, ?_⟩
  · rw [e, an_loc, ← h0.1]
    exact an_rL_app h0 (an_rL_none _)
  · rw [e, List.length_append, List.length_replicate, ← h0.1]; omega
theorem an_kno_ok (d : Nat) : an_KO d an_kno := fun μ as Z Es ρ h0 hp vs h => by cases h
theorem an_KO_up {d d' : Nat} {K : an_KT} (h : an_KO d K) (hd : d ≤ d') : an_KO d' K := fun μ as Z Es ρ h0 hp vs h1 hw h2 h3 => by
  obtain ⟨v, hp', a, b⟩ := h μ as Z Es ρ h0 hp vs h1 hw h2 h3
  exact ⟨v, hp', em_up a hd, b⟩
theorem an_kor_ok {d : Nat} {s : Nat → Bool} {K1 K2 : an_KT} (h1 : an_KO d K1) (h2 : an_KO d K2) : an_KO d (an_kor s K1 K2) := fun μ as Z Es ρ h0 hp vs h => by
  have h : cond (s μ) (K1 μ) (K2 μ) as Z = some Es := h
  cases e : s μ with
  | true => rw [e] at h; exact h1 μ as Z Es ρ h0 hp vs h
  | false => rw [e] at h; exact h2 μ as Z Es ρ h0 hp vs h
theorem an_inl_ok {d n : Nat} {K : an_KT} (hK : an_KO d K) : an_KO (d + 1) (an_inl K n) := fun μ as Z Es ρ h0 hp vs h hwf hF hZ => by
  unfold an_inl at h
  split at h
  · rename_i E hE
    cases hb : (Nat.ble (an_l0 as).length E.2.2.1 && Nat.ble E.2.2.1 45) with
    | false => rw [hb] at h; cases h
    | true =>
      rw [hb] at h
      rw [Bool.and_eq_true, Nat.ble_eq, Nat.ble_eq] at hb
      dsimp only [cond_true] at h
      obtain ⟨l1, l2⟩ := an_loc_ok E.2.2.1 hF
      obtain ⟨v, hp', x1, x2⟩ := an_ex_ok (h0 := h0) (Q := fun v hp' => ∃ E ∈ Es, ∃ e : List Int, an_rr (ρ ++ e) E.1 v ∧ an_rZ (ρ ++ e) E.2 h0 hp') hwf hK n 0 _ [] Z Es ρ (sm_loc vs E.2.2.1) [] hp h l1 trivial hZ (fun pc c ls st Z e lc sc hp z => by cases z) (fun E' hE' e v hp' y1 y2 => ⟨E', hE', e, y1, y2⟩)
      exact ⟨v, hp', em_in hE ⟨by rw [l2]; exact hb.1, hb.2⟩ x1, x2⟩
  · cases h
end ANI
