/-! nobody is told: beats, winsOf; Arrays.fill over what is 0 already -/
theorem m_be0 (d : Nat) (hp : sm_H) (fs : List Value) (l : List Int32) (i j : Int32) (hk : hp[67]? = some (.inr (8, .ref 68 :: fs))) (hl : hp[68]? = some (.inl (0, .inl l))) (ht : l[144]? = some 0) : EM (d + 4) 213 [.ref 67, .int i, .int j] hp (some (.int 0)) hp := by
  refine em_in (E := mm213) rfl ⟨Nat.le_of_ble_eq_true rfl, Nat.le_of_ble_eq_true rfl⟩ ?_
  iterate 3 (refine ev_step rfl rfl ?_)
  refine ev_cV rfl rfl rfl rfl hk rfl (m_po0 d hp fs l i j hk hl ht) ?_
  iterate 3 (refine ev_step rfl rfl ?_)
  refine ev_cV rfl rfl rfl rfl hk rfl (m_po0 d hp fs l j i hk hl ht) ?_
  refine ev_step rfl rfl ?_
  refine ev_if (fun _ => ?_) (fun h => absurd h (by decide +kernel))
  refine ev_step rfl rfl ?_
  exact ev_ret rfl rfl
theorem m_wo0 (d : Nat) (hp : sm_H) (fs : List Value) (l : List Int32) (i j : Int32) (hk : hp[67]? = some (.inr (8, .ref 68 :: fs))) (hl : hp[68]? = some (.inl (0, .inl l))) (ht : l[144]? = some 0) : EM (d + 5) 222 [.ref 67, .int i, .int j] hp (some (.int i)) hp := by
  refine em_in (E := mm222) rfl ⟨Nat.le_of_ble_eq_true rfl, Nat.le_of_ble_eq_true rfl⟩ ?_
  iterate 3 (refine ev_step rfl rfl ?_)
  refine ev_cV rfl rfl rfl rfl hk rfl (m_be0 d hp fs l j i hk hl ht) ?_
  refine ev_step rfl rfl ?_
  refine ev_if (fun _ => ?_) (fun h => absurd h (by decide +kernel))
  refine ev_step rfl rfl ?_
  exact ev_ret rfl rfl
def kt2_K : an_KT := fun μ as Z => match as with
  | [.inr (.inl k), .inl a, .inl _] => cond (Nat.beq μ 222 && Nat.beq k 67 && kt_mod Z.2.1) (some [(some (.inl a), Z)]) none
  | _ => none
theorem kt2_K_ok (d : Nat) : an_KO (d + 5) kt2_K := fun μ as Z Es ρ h0 hp vs h hF hZ => by
  unfold kt2_K at h
  split at h
  · rename_i k a b
    match vs, hF with
    | [v1, v2, v3], hF =>
      obtain ⟨e1, e2, e3, -⟩ := hF
      have e1 : v1 = .ref k := e1
      subst e1
      obtain ⟨x, rfl⟩ := an_isint e2
      obtain ⟨y, rfl⟩ := an_isint e3
      cases ht : (Nat.beq μ 222 && Nat.beq k 67 && kt_mod Z.2.1) with
      | false => rw [ht] at h; cases h
      | true =>
        rw [ht] at h
        rw [Bool.and_eq_true, Bool.and_eq_true, Nat.beq_eq, Nat.beq_eq] at ht
        obtain ⟨⟨rfl, rfl⟩, ht⟩ := ht
        obtain ⟨fs, l, g1, g2, g3⟩ := kt_mod_ok hZ ht
        cases h
        refine ⟨_, _, m_wo0 d hp fs l x y g1 g2 g3, _, List.mem_singleton.mpr rfl, [], ?_, by simpa using hZ⟩
        simp only [List.append_nil]
        exact ⟨e2, trivial⟩
    | [], hF => exact hF.elim
    | [_], hF => exact hF.2.elim
    | [_, _], hF => exact hF.2.2.elim
    | _ :: _ :: _ :: _ :: _, hF => exact hF.2.2.2.elim
  · cases h
def pc_fi : an_Ct := (3, [.inr (.inl 37), .inl (none, 0)], ([], pz_H, []), none, [], [37])
set_option maxRecDepth 100000 in
theorem pc_fi_ck : an_ck0 pk_1 pc_fi mm3 [] 8000 = true := by decide +kernel
theorem pc_fi_ok : an_CO 5 pc_fi := an_ck_ok (N := []) pk_1_ok rfl (by decide +kernel) pc_fi_ck (fun n hn => by cases hn)
def pm_sel (μ : Nat) : Bool := Nat.beq μ 222
def pm_se3 (μ : Nat) : Bool := Nat.beq μ 3
noncomputable def pm_B (K : an_KT) : an_KT := an_kor kt_sel kt_K (an_kor pm_sel kt2_K (an_kor pc_sel pc_K (an_kor pm_se3 (an_kc pc_fi) K)))
theorem pm_B_ok {d : Nat} {K : an_KT} (hd : 7 ≤ d) (h : an_KO d K) : an_KO d (pm_B K) := an_kor_ok (an_KO_up (kt_K_ok 0) (by omega)) (an_kor_ok (an_KO_up (kt2_K_ok 0) (by omega)) (an_kor_ok (an_KO_up pc_K_ok hd) (an_kor_ok (an_KO_up (an_kc_ok pc_fi_ok) (by omega)) h)))
noncomputable def pm_0 : an_KT := pm_B an_kno
noncomputable def pm_1 : an_KT := pm_B (an_inl pm_0 8000)
noncomputable def pm_2 : an_KT := pm_B (an_inl pm_1 8000)
noncomputable def pm_3 : an_KT := pm_B (an_inl pm_2 8000)
noncomputable def pm_4 : an_KT := pm_B (an_inl pm_3 8000)
noncomputable def pm_5 : an_KT := pm_B (an_inl pm_4 8000)
noncomputable def pm_6 : an_KT := pm_B (an_inl pm_5 8000)
theorem pm_6_ok : an_KO 13 pm_6 := pm_B_ok (by decide) (an_inl_ok (pm_B_ok (by decide) (an_inl_ok (pm_B_ok (by decide) (an_inl_ok (pm_B_ok (by decide) (an_inl_ok (pm_B_ok (by decide) (an_inl_ok (pm_B_ok (by decide) (an_inl_ok (pm_B_ok (Nat.le_refl 7) (an_kno_ok 7)))))))))))))
