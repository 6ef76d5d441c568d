/-! a heap of the shape is known by its numbers -/
noncomputable def rbF (F : Nat → Nat → Int32) (k : Nat) : Nat → List (Option Nat) → List Value
  | _, [] => []
  | j, some r :: t => .ref r :: rbF F k (j + 1) t
  | j, none :: t => .int (F k j) :: rbF F k (j + 1) t
noncomputable def rbC (F : Nat → Nat → Int32) (A : Nat → List Int32) (L : Nat → List Int64) (k : Nat) (p : (Nat × Nat) ⊕ (Nat × List (Option Nat))) : sm_C := match p with
  | .inl q => cond (Nat.beq q.1 1) (.inl (1, .inr (L k))) (.inl (q.1, .inl (A k)))
  | .inr q => .inr (q.1, rbF F k 0 q.2)
noncomputable def rbH (F : Nat → Nat → Int32) (A : Nat → List Int32) (L : Nat → List Int64) : Nat → List ((Nat × Nat) ⊕ (Nat × List (Option Nat))) → sm_H
  | _, [] => []
  | k, p :: t => rbC F A L k p :: rbH F A L (k + 1) t
theorem hz_rb (F : Nat → Nat → Int32) (A : Nat → List Int32) (L : Nat → List Int64) : hz F A L = rbH F A L 0 hz_P := rfl
noncomputable def exF (hp : sm_H) (k j : Nat) : Int32 := match hp[k]? with
  | some (.inr o) => (match o.2[j]? with
    | some (.int x) => x
    | _ => 0)
  | _ => 0
noncomputable def exA (hp : sm_H) (k : Nat) : List Int32 := match hp[k]? with
  | some (.inl (_, .inl l)) => l
  | _ => []
noncomputable def exL (hp : sm_H) (k : Nat) : List Int64 := match hp[k]? with
  | some (.inl (_, .inr l)) => l
  | _ => []
section KH
variable {ρ : List Int}
theorem sh_F {hp : sm_H} {k c : Nat} {all : List Value} (hk : hp[k]? = some (.inr (c, all))) : ∀ (ps : List (Option Nat)) (as : List an_S) (pre vs : List Value), all = pre ++ vs → shF as ps = true → an_rF ρ as vs → rbF (exF hp) k pre.length ps = vs := by
  intro ps
  induction ps with
  | nil =>
    intro as pre vs he hs hr
    match as, vs, hs, hr with
    | [], [], _, _ => rfl
    | [], _ :: _, _, hr => cases hr
    | .inl _ :: _, _, hs, _ => cases hs
    | .inr (.inl _) :: _, _, hs, _ => cases hs
    | .inr (.inr _) :: _, _, hs, _ => cases hs
  | cons p ps ih =>
    intro as pre vs he hs hr
    match as, vs, p, hs, hr with
    | [], _, _, hs, _ => cases hs
    | _ :: _, [], _, _, hr => cases hr
    | .inl n :: as, v :: vs, none, hs, hr =>
      obtain ⟨x, rfl⟩ : ∃ x, v = .int x := an_isint hr.1
      have hs : shF as ps = true := hs
      show Value.int (exF hp k pre.length) :: rbF (exF hp) k (pre.length + 1) ps = _
      have e1 : exF hp k pre.length = x := by
        unfold exF
        rw [hk]
        dsimp only
        rw [he, List.getElem?_append_right (Nat.le_refl _), Nat.sub_self]
        rfl
      have e2 := ih as (pre ++ [.int x]) vs (by rw [he]; simp) hs hr.2
      rw [List.length_append] at e2
      rw [e1, show pre.length + 1 = pre.length + [Value.int x].length from rfl, e2]
    | .inl _ :: _, _ :: _, some _, hs, _ => cases hs
    | .inr (.inl _) :: _, _ :: _, none, hs, _ => cases hs
    | .inr (.inr _) :: _, _ :: _, none, hs, _ => cases hs
    | .inr (.inr _) :: _, _ :: _, some _, hs, _ => cases hs
    | .inr (.inl j) :: as, v :: vs, some r, hs, hr =>
      have hs : (Nat.beq j r && shF as ps) = true := hs
      simp only [Bool.and_eq_true, Nat.beq_eq] at hs
      obtain ⟨hjr, hs2⟩ := hs
      subst hjr
      have hv : v = .ref j := hr.1
      subst hv
      show Value.ref j :: rbF (exF hp) k (pre.length + 1) ps = _
      have e2 := ih as (pre ++ [.ref j]) vs (by rw [he]; simp) hs2 hr.2
      rw [List.length_append] at e2
      rw [show pre.length + 1 = pre.length + [Value.ref j].length from rfl, e2]
theorem sh_C {hp : sm_H} {k : Nat} {d : sm_C} {c : an_C} {p : (Nat × Nat) ⊕ (Nat × List (Option Nat))} (hk : hp[k]? = some d) (hs : shC c p = true) (hr : an_rC ρ c d) : rbC (exF hp) (exA hp) (exL hp) k p = d := by
  match c, p, d, hs, hr with
  | .inl a, .inl q, .inl (kd, .inl l), hs, hr =>
    have hs : (Nat.beq a.1 q.1 && Nat.beq (an_len a.2) q.2) = true := hs
    simp only [Bool.and_eq_true, Nat.beq_eq] at hs
    obtain ⟨h1, h2, h3⟩ : a.1 = kd ∧ kd ≠ 1 ∧ an_rA a.2 l := hr
    show cond (Nat.beq q.1 1) _ _ = _
    have e : Nat.beq q.1 1 = false := by
      cases e : Nat.beq q.1 1 with
      | true => exact absurd (Nat.eq_of_beq_eq_true e) (by omega)
      | false => rfl
    rw [e]
    show Sum.inl (q.1, Sum.inl (exA hp k)) = _
    have e2 : exA hp k = l := by unfold exA; rw [hk]
    rw [e2, ← hs.1, h1]
  | .inl a, .inl q, .inl (kd, .inr l), hs, hr =>
    have hs : (Nat.beq a.1 q.1 && Nat.beq (an_len a.2) q.2) = true := hs
    simp only [Bool.and_eq_true, Nat.beq_eq] at hs
    obtain ⟨h1, h2, h3⟩ : a.1 = kd ∧ kd = 1 ∧ l.length = an_len a.2 := hr
    show cond (Nat.beq q.1 1) _ _ = _
    rw [show q.1 = 1 by omega]
    show Sum.inl (1, Sum.inr (exL hp k)) = _
    have e2 : exL hp k = l := by unfold exL; rw [hk]
    rw [e2, h2]
  | .inr o, .inr q, .inr (cc, fs), hs, hr =>
    have hs : (Nat.beq o.1 q.1 && shF o.2 q.2) = true := hs
    simp only [Bool.and_eq_true, Nat.beq_eq] at hs
    obtain ⟨h1, h2⟩ : o.1 = cc ∧ an_rF ρ o.2 fs := hr
    show Sum.inr (q.1, rbF (exF hp) k 0 q.2) = _
    rw [show (0 : Nat) = ([] : List Value).length from rfl, sh_F hk q.2 o.2 [] fs rfl hs.2 h2, ← hs.1, h1]
  | .inl _, .inr _, _, hs, _ => cases hs
  | .inr _, .inl _, _, hs, _ => cases hs
theorem sh_H : ∀ (P : List ((Nat × Nat) ⊕ (Nat × List (Option Nat)))) (H : an_H) (pre h : sm_H), shH H P = true → an_rH ρ H h → rbH (exF (pre ++ h)) (exA (pre ++ h)) (exL (pre ++ h)) pre.length P = h := by
  intro P
  induction P with
  | nil =>
    intro H pre h hs hr
    match H, h, hs, hr with
    | [], [], _, _ => rfl
    | [], _ :: _, _, hr => cases hr
    | _ :: _, _, hs, _ => cases hs
  | cons p P ih =>
    intro H pre h hs hr
    match H, h, hs, hr with
    | [], _, hs, _ => cases hs
    | _ :: _, [], _, hr => cases hr
    | c :: H, d :: h, hs, hr =>
      have hs : (shC c p && shH H P) = true := hs
      simp only [Bool.and_eq_true] at hs
      have hk : (pre ++ d :: h)[pre.length]? = some d := by rw [List.getElem?_append_right (Nat.le_refl _), Nat.sub_self]; rfl
      show rbC _ _ _ pre.length p :: rbH _ _ _ (pre.length + 1) P = _
      rw [sh_C hk hs.1 hr.1]
      have e2 := ih H (pre ++ [d]) h hs.2 hr.2
      rw [List.length_append, show (pre ++ [d]) ++ h = pre ++ d :: h by simp] at e2
      rw [show pre.length + 1 = pre.length + [d].length from rfl, e2]
theorem sh_hz {H : an_H} {hp : sm_H} (hs : shH H hz_P = true) (hr : an_rH ρ H hp) : hp = hz (exF hp) (exA hp) (exL hp) := by
  rw [hz_rb]
  exact (sh_H hz_P H [] hp hs hr).symm
theorem shH_get : ∀ {P : List ((Nat × Nat) ⊕ (Nat × List (Option Nat)))} {H : an_H} {k : Nat} {p : (Nat × Nat) ⊕ (Nat × List (Option Nat))}, shH H P = true → P[k]? = some p → ∃ c, H[k]? = some c ∧ shC c p = true
  | p0 :: P, c :: H, 0, p, hs, hp => by
    have hs : (shC c p0 && shH H P) = true := hs
    simp only [Bool.and_eq_true] at hs
    cases hp
    exact ⟨c, rfl, hs.1⟩
  | p0 :: P, c :: H, k + 1, p, hs, hp => by
    have hs : (shC c p0 && shH H P) = true := hs
    simp only [Bool.and_eq_true] at hs
    exact shH_get (P := P) (H := H) (k := k) hs.2 hp
  | [], _, _, _, _, hp => by cases hp
  | _ :: _, [], _, _, hs, _ => by cases hs
theorem sh_len {H : an_H} {hp : sm_H} {k n kd : Nat} (hs : shH H hz_P = true) (hr : an_rH ρ H hp) (hP : hz_P[k]? = some (.inl (kd, n))) (hkd : kd ≠ 1) : (exA hp k).length = n := by
  obtain ⟨c, h1, h2⟩ := shH_get hs hP
  obtain ⟨d, h3, h4⟩ := an_rH_get hr h1
  match c, d, h2, h4 with
  | .inl a, .inl (kk, .inl l), h2, h4 =>
    have h2 : (Nat.beq a.1 kd && Nat.beq (an_len a.2) n) = true := h2
    simp only [Bool.and_eq_true, Nat.beq_eq] at h2
    obtain ⟨q1, q2, q3⟩ : a.1 = kk ∧ kk ≠ 1 ∧ an_rA a.2 l := h4
    have e2 : exA hp k = l := by unfold exA; rw [h3]
    rw [e2, q3.1, h2.2]
  | .inl a, .inl (kk, .inr l), h2, h4 =>
    have h2 : (Nat.beq a.1 kd && Nat.beq (an_len a.2) n) = true := h2
    simp only [Bool.and_eq_true, Nat.beq_eq] at h2
    obtain ⟨q1, q2, q3⟩ : a.1 = kk ∧ kk = 1 ∧ l.length = an_len a.2 := h4
    omega
  | .inr _, _, h2, _ => cases h2
theorem mz_T_of {H : an_H} {hp : sm_H} {k n : Nat} {l : List Int32} (ht : mz_isT H[k]? n = true) (hr : an_rH ρ H hp) (hl : l.length = n) : an_rH ρ H (hp.set k (.inl (0, .inl l))) := by
  unfold mz_isT at ht
  split at ht
  · rename_i kk lo hi hc
    simp only [Bool.and_eq_true, Nat.beq_eq, ile_iff] at ht
    obtain ⟨⟨h1, h2⟩, h3⟩ := ht
    refine an_rH_arr k hr hc ⟨rfl, by decide, ?_, fun i x b hx hb => ?_⟩
    · show l.length = kk + 0
      omega
    · have hb : cond (Nat.blt i kk) (some (lo, hi)) none = some b := hb
      cases e : Nat.blt i kk with
      | true =>
        rw [e] at hb
        cases hb
        have := an_top x
        exact ⟨by show lo ≤ _; omega, by show _ ≤ hi; omega⟩
      | false => rw [e] at hb; cases hb
  · cases ht
theorem mz_pc_ok {M0 : List an_Fc} {hp : sm_H} {k : Nat} {a b c : an_S} {x y n : Int32} (hM : an_rM ρ M0 hp) (ha : an_rv ρ a (.int x)) (hb : an_rv ρ b (.int y)) (hc : an_rv ρ c (.int n)) : ∀ {M : List an_Fc}, (∀ f ∈ M, f ∈ M0) → mz_pc k a b c M0 M = true → ∃ (kd kd' : Nat) (l l' : List Int32) (i : Nat), hp[k]? = some (.inl (kd, .inl l)) ∧ hp[k + 1]? = some (.inl (kd', .inl l')) ∧ l[i]? = some x ∧ l'[i]? = some y ∧ (i : Int) < n.toInt
  | [], _, h => by cases h
  | .inl q :: t, hs, h => by
    have h : ((Nat.beq q.1 k && (an_feq q.2.2 a && (mz_el2 (k + 1) b M0 q.2.1 && an_orl q.2.1 c 1 M0))) || mz_pc k a b c M0 t) = true := h
    rw [Bool.or_eq_true] at h
    rcases h with h | h
    · simp only [Bool.and_eq_true, Nat.beq_eq] at h
      obtain ⟨h1, h2, h3, h4⟩ := h
      obtain ⟨kd, l, x', y', f1, f2, f3, f4, f5⟩ : an_rf ρ hp (.inl q) := hM _ (hs _ List.mem_cons_self)
      rw [an_feq_eq h2] at f5
      have e1 := an_rv_fun f5 ha
      unfold mz_el2 at h3
      split at h3
      · rename_i v hv
        obtain ⟨kd', l', x'', y'', g1, g2, g3, g4, g5⟩ := an_el_ok hM hv
        dsimp only at g2 g5
        rw [an_feq_eq h3] at g5
        have e2 := an_rv_fun g5 hb
        have e3 := an_rv_fun g2 f2
        have h5 := an_orl_ok hM f2 hc h4
        rw [h1] at f1
        exact ⟨kd, kd', l, l', x'.toInt.toNat, f1, g1, by rw [← e1]; exact f4, by rw [← e2, ← e3]; exact g4, by omega⟩
      · cases h3
    · exact mz_pc_ok hM ha hb hc (fun f hf => hs f (List.mem_cons_of_mem _ hf)) h
  | .inr _ :: t, hs, h => mz_pc_ok hM ha hb hc (fun f hf => hs f (List.mem_cons_of_mem _ hf)) h
theorem mz_ct_ok {Z : an_Z} {h0 hp : sm_H} {a b : an_S} {x y : Int32} (hZ : an_rZ ρ Z h0 hp) (hwf : an_WF hp) (ha : an_rv ρ a (.int x)) (hb : an_rv ρ b (.int y)) (h : mz_ct a b Z = true) : ∃ (lc : List Int32) (p q : Nat), hp[78]? = some (.inl (0, .inl lc)) ∧ x = nI p ∧ y = nI q ∧ cw_seg lc p q := by
  unfold mz_ct at h
  split at h
  · rename_i c hc
    unfold mz_fd17 at hc
    split at hc
    · rename_i o ho
      obtain ⟨d, d1, d2⟩ := an_rH_get hZ.2.1 ho
      obtain ⟨n, lc, l1, l2, l3, w1, w2, w3, w4, w5, w6, w7⟩ := hwf
      match d, d1, d2 with
      | .inr p, d1, d2 =>
        obtain ⟨v, v1, v2⟩ := an_rF_get d2.2 hc
        have hn : v = .int n := by
          unfold an_fld17 at w1
          rw [d1] at w1
          have w1 : p.2[17]? = some (.int n) := w1
          exact Option.some.inj (v1.symm.trans w1)
        subst hn
        rw [Bool.or_eq_true] at h
        rcases h with h | h
        · obtain ⟨kd, kd', l, l', i, g1, g2, g3, g4, g5⟩ := mz_pc_ok hZ.2.2.2 ha hb v2 (fun f hf => hf) h
          obtain ⟨p, m, q, u1, u2, u3, u4, u5⟩ := w7 i g5
          cases w3.symm.trans g1
          cases w4.symm.trans g2
          exact ⟨lc, p, m, w2, Option.some.inj (g3.symm.trans u1), Option.some.inj (g4.symm.trans u2), u4⟩
        · obtain ⟨kd, kd', l, l', i, g1, g2, g3, g4, g5⟩ := mz_pc_ok hZ.2.2.2 ha hb v2 (fun f hf => hf) h
          obtain ⟨p, m, q, u1, u2, u3, u4, u5⟩ := w7 i g5
          cases w4.symm.trans g1
          cases w5.symm.trans g2
          exact ⟨lc, m, q, w2, Option.some.inj (g3.symm.trans u2), Option.some.inj (g4.symm.trans u3), u5⟩
    · cases hc
  · cases h
theorem cnd_some {α : Type} {b : Bool} {x y : α} (h : cond b (some x) none = some y) : b = true ∧ x = y := by
  cases b with
  | true => cases h; exact ⟨rfl, rfl⟩
  | false => cases h
theorem frA_one {A A' : Nat → List Int32} {k : Nat} (h : frA [k] A A') : A' = uA A k (A' k) := by
  funext j
  by_cases e : j = k
  · subst e; rw [uA_eq]
  · rw [uA_ne e, h j (by simpa using e)]
theorem frA_two {A A' : Nat → List Int32} {k i : Nat} (hki : k ≠ i) (h : frA [k, i] A A') : A' = uA (uA A k (A' k)) i (A' i) := by
  funext j
  by_cases e : j = i
  · subst e; rw [uA_eq]
  · rw [uA_ne e]
    by_cases e2 : j = k
    · subst e2; rw [uA_eq]
    · rw [uA_ne e2, h j (by simp [e, e2])]
theorem mz_KH_ok : an_KO 40 mz_KH := fun μ as Z Es ρ h0 hp vs h hwf hF hZ => by
  have hW := an_WF_keep hZ.2.2.1.2 hwf
  unfold mz_KH at h
  split at h
  · rename_i k a b
    obtain ⟨hb, rfl⟩ := cnd_some h
    simp only [Bool.and_eq_true, Nat.beq_eq] at hb
    obtain ⟨⟨⟨⟨rfl, rfl⟩, hct⟩, hsh⟩, hT⟩ := hb
    match vs, hF with
    | [v0, v1, v2], hF =>
      obtain ⟨e0, hv1, hv2, -⟩ := hF
      have e0 : v0 = .ref 67 := e0
      obtain ⟨x, rfl⟩ := an_isint hv1
      obtain ⟨y, rfl⟩ := an_isint hv2
      subst e0
      obtain ⟨lc, p, q, c1, c2, c3, c4⟩ := mz_ct_ok hZ hW hv1 hv2 hct
      have e := sh_hz hsh hZ.2.1
      have l78 := sh_len (k := 78) (n := 260) (kd := 0) hsh hZ.2.1 rfl (by decide)
      have l83 := sh_len (k := 83) (n := 260) (kd := 0) hsh hZ.2.1 rfl (by decide)
      have l84 := sh_len (k := 84) (n := 8) (kd := 0) hsh hZ.2.1 rfl (by decide)
      have ec : exA hp 78 = lc := by unfold exA; rw [c1]
      have k83 : hp[83]? = some (.inl (0, .inl (exA hp 83))) := by
        have : (hz (exF hp) (exA hp) (exL hp))[83]? = some (.inl (0, .inl (exA hp 83))) := hz_g83
        rw [← e] at this
        exact this
      have key : wp_M 40 181 [.ref 67, .int x, .int y] (hz (exF hp) (exA hp) (exL hp)) (fun v hp' => ∃ r : Int32, v = some (.int r) ∧ ∃ l : List Int32, l.length = 260 ∧ hp' = hp.set 83 (.inl (0, .inl l))) := by
        refine r_ct (d := 38) c2 c3 (by rw [ec]; exact c4) l78 l83 l84 (fun r A' f1 f2 => ⟨r, rfl, A' 83, f2, ?_⟩)
        rw [frA_one f1, ← hz_s83, ← e, uA_eq]
      rw [← e] at key
      obtain ⟨v, hp', m1, r, rfl, l, hl, rfl⟩ := key
      refine ⟨_, _, m1, _, List.mem_cons_self, ?_⟩
      obtain ⟨e1, t1, t2⟩ := an_new_ok (T := Z.1) (b := an_tp) (x := r) hZ.1 (fun _ => an_top r)
      exact ⟨e1, ⟨t2, trivial⟩, t1, an_rH_ext e1 (mz_T_of hT hZ.2.1 hl), an_rW_arr k83 rfl (Or.inl rfl) hZ.2.2.1, an_rM_ext e1 (an_rM_arr hZ.2.2.2)⟩
    | [], hF => cases hF
    | [_], hF => cases hF.2
    | [_, _], hF => cases hF.2.2
    | _ :: _ :: _ :: _ :: _, hF => cases hF.2.2.2
  · rename_i k
    obtain ⟨hb, rfl⟩ := cnd_some h
    simp only [Bool.and_eq_true, Nat.beq_eq] at hb
    obtain ⟨⟨⟨⟨⟨rfl, rfl⟩, hsh⟩, hT87⟩, hT89⟩, hmany⟩ := hb
    match vs, hF with
    | [v0], hF =>
      obtain ⟨e0, -⟩ := hF
      have e0 : v0 = .ref 67 := e0
      subst e0
      have e := sh_hz hsh hZ.2.1
      have l68 := sh_len (k := 68) (n := 150) (kd := 0) hsh hZ.2.1 rfl (by decide)
      have l87 := sh_len (k := 87) (n := 6) (kd := 0) hsh hZ.2.1 rfl (by decide)
      have l89 := sh_len (k := 89) (n := 6) (kd := 0) hsh hZ.2.1 rfl (by decide)
      have hm : 2 ≤ (exF hp 67 3).toInt ∧ (exF hp 67 3).toInt ≤ 6 := by
        unfold mz_many at hmany
        split at hmany
        · rename_i o ho
          split at hmany
          · rename_i a ha
            split at hmany
            · rename_i b hb
              simp only [Bool.and_eq_true, ile_iff] at hmany
              obtain ⟨dd, d1, d2⟩ := an_rH_get hZ.2.1 ho
              match dd, d1, d2 with
              | .inr p, d1, d2 =>
                obtain ⟨v, v1, v2⟩ := an_rF_get d2.2 ha
                obtain ⟨x, rfl, x1, x2⟩ := an_iv_ok hZ.1 v2 hb
                have ex : exF hp 67 3 = x := by
                  unfold exF
                  rw [d1]
                  dsimp only
                  rw [v1]
                rw [ex]
                omega
            · cases hmany
          · cases hmany
        · cases hmany
      have k87 : hp[87]? = some (.inl (0, .inl (exA hp 87))) := by
        have : (hz (exF hp) (exA hp) (exL hp))[87]? = some (.inl (0, .inl (exA hp 87))) := hz_g87
        rw [← e] at this
        exact this
      have k89 : ∀ l : List Int32, (hp.set 87 (.inl (0, .inl l)))[89]? = some (.inl (0, .inl (exA hp 89))) := fun l => by
        have : (hz (exF hp) (exA hp) (exL hp))[89]? = some (.inl (0, .inl (exA hp 89))) := hz_g89
        rw [← e] at this
        rw [List.getElem?_set, if_neg (by decide)]
        exact this
      have key : wp_M 40 210 [.ref 67] (hz (exF hp) (exA hp) (exL hp)) (fun v hp' => ∃ r : Int32, v = some (.int r) ∧ (0 ≤ r.toInt ∧ r.toInt ≤ 5) ∧ ∃ l l' : List Int32, l.length = 6 ∧ l'.length = 6 ∧ hp' = (hp.set 87 (.inl (0, .inl l))).set 89 (.inl (0, .inl l'))) := by
        refine r_ro (d := 36) hm.1 hm.2 l68 l87 l89 (fun r A' f1 f2 f3 f4 f5 => ⟨r, rfl, ⟨f4, f5⟩, A' 87, A' 89, f2, f3, ?_⟩)
        have e2 : hz (exF hp) A' (exL hp) = ((hz (exF hp) (exA hp) (exL hp)).set 87 (.inl (0, .inl (A' 87)))).set 89 (.inl (0, .inl (A' 89))) := by
          rw [hz_s87, hz_s89, ← frA_two (by decide) f1]
        rw [e2, ← e]
      rw [← e] at key
      obtain ⟨v, hp', m1, r, rfl, hr, l, l', hl, hl', rfl⟩ := key
      refine ⟨_, _, m1, _, List.mem_cons_self, ?_⟩
      obtain ⟨e1, t1, t2⟩ := an_new_ok (T := Z.1) (b := (0, 5)) (x := r) hZ.1 (fun _ => hr)
      have hW87 : an_rW (87 :: Z.2.2.1) h0 (hp.set 87 (.inl (0, .inl l))) := an_rW_arr k87 rfl (Or.inl rfl) hZ.2.2.1
      have hW89 : an_rW (89 :: 87 :: Z.2.2.1) h0 ((hp.set 87 (.inl (0, .inl l))).set 89 (.inl (0, .inl l'))) := an_rW_arr (Z := (Z.1, Z.2.1, 87 :: Z.2.2.1, Z.2.2.2)) (k89 l) rfl (Or.inl rfl) hW87
      have hsw : ∀ w, w ∈ 89 :: 87 :: Z.2.2.1 → w ∈ 87 :: 89 :: Z.2.2.1 := fun w z => by
        rcases List.mem_cons.mp z with z | z
        · rw [z]; exact List.mem_cons_of_mem _ List.mem_cons_self
        · rcases List.mem_cons.mp z with z | z
          · rw [z]; exact List.mem_cons_self
          · exact List.mem_cons_of_mem _ (List.mem_cons_of_mem _ z)
      refine ⟨e1, ⟨t2, trivial⟩, t1, an_rH_ext e1 (mz_T_of hT89 (mz_T_of hT87 hZ.2.1 hl) hl'), ⟨⟨fun j c hj hn => hW89.1.1 j c hj (fun z => hn (hsw j z)), an_rS_sub hW89.1.2 hsw⟩, hW89.2⟩, an_rM_ext e1 ?_⟩
      · have h1 := an_rM_arr (k := 87) (d := .inl (0, .inl l)) hZ.2.2.2
        have h2 := an_rM_arr (k := 89) (d := .inl (0, .inl l')) h1
        intro f hf
        refine h2 f ?_
        unfold an_kill at hf ⊢
        rw [List.mem_filter, List.mem_filter] at hf ⊢
        exact ⟨⟨hf.1.1, hf.2⟩, hf.1.2⟩
    | [], hF => cases hF
    | _ :: _ :: _, hF => cases hF.2
  · cases h
end KH
