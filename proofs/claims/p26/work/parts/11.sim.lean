/-! the shadow machine's runs are the machine's -/
theorem sm_x_ret {q : sm_I} {pc : Nat} {ls : sm_L} {st : List Value} {hp : sm_H} {v : Option Value} (h : sm_x q pc ls st hp = some (.inr (.inr v))) : (q.1 = .ireturn ∧ sm_ir st q.2.2.2 = some (.inr (.inr v))) ∨ (q.1 = .lreturn ∧ sm_lr st = some (.inr (.inr v))) ∨ (q.1 = .return_ ∧ sm_vr st = some (.inr (.inr v))) := by
  obtain ⟨i, n, a, b⟩ := q
  cases i with
  | ireturn => exact Or.inl ⟨rfl, h⟩
  | lreturn => exact Or.inr (Or.inl ⟨rfl, h⟩)
  | return_ => exact Or.inr (Or.inr ⟨rfl, h⟩)
  | _ =>
    exfalso
    dsimp only [sm_x, sm_x0, sm_n, sm_nl, sm_i1, sm_i2, sm_l2, sm_ls, sm_ldi, sm_ldl, sm_lda, sm_sti, sm_sta, sm_stl, sm_inc, sm_if, sm_icmp, sm_to, sm_tsw, sm_lsw, sm_gf, sm_pf, sm_al, sm_ll, sm_as, sm_lls, sm_alen, sm_na, sm_nw, sm_ac, sm_oi, sm_cS, sm_cV, sm_cI, sm_pop, sm_dup, sm_dup2, sm_iof, sm_l2i] at h
    first
      | cases h
      | (split at h <;> first
          | cases h
          | (split at h <;> first
              | cases h
              | (split at h <;> first
                  | cases h
                  | (split at h <;> first
                      | cases h
                      | (split at h <;> first
                          | cases h
                          | (split at h <;> cases h))))))
theorem sm_x_call {q : sm_I} {pc : Nat} {ls : sm_L} {st : List Value} {hp : sm_H} {f : Nat × List Value × List Value} (h : sm_x q pc ls st hp = some (.inr (.inl f))) : (∃ idx, q.1 = .invokestatic idx ∧ q.2.2.1 ≠ 9998 ∧ q.2.2.1 ≠ 9997 ∧ sm_cS st q.2.2.1 = some (.inr (.inl f))) ∨ (∃ idx, q.1 = .invokevirtual idx ∧ q.2.2.1 ≠ 9998 ∧ sm_cV st q.2.2.1 hp = some (.inr (.inl f))) ∨ (∃ idx, q.1 = .invokespecial idx ∧ q.2.2.1 ≠ 9999 ∧ sm_cI st q.2.2.1 = some (.inr (.inl f))) := by
  obtain ⟨i, n, a, b⟩ := q
  cases i with
  | invokestatic idx =>
    dsimp only [sm_x, sm_x0] at h
    split at h
    · cases h
    · rename_i h98
      split at h
      · exfalso
        dsimp only [sm_ac, sm_n] at h
        split at h
        · split at h
          · split at h <;> cases h
          · split at h <;> cases h
          · cases h
        · cases h
      · rename_i h97
        exact Or.inl ⟨idx, rfl, h98, h97, h⟩
  | invokevirtual idx =>
    dsimp only [sm_x, sm_x0] at h
    split at h
    · cases h
    · rename_i h98
      exact Or.inr (Or.inl ⟨idx, rfl, h98, h⟩)
  | invokespecial idx =>
    dsimp only [sm_x, sm_x0] at h
    split at h
    · exfalso
      dsimp only [sm_oi, sm_n] at h
      split at h
      · split at h <;> cases h
      · cases h
    · rename_i h99
      exact Or.inr (Or.inr ⟨idx, rfl, h99, h⟩)
  | _ =>
    exfalso
    dsimp only [sm_x, sm_x0, sm_n, sm_nl, sm_i1, sm_i2, sm_l2, sm_ls, sm_ldi, sm_ldl, sm_lda, sm_sti, sm_sta, sm_stl, sm_inc, sm_if, sm_icmp, sm_to, sm_tsw, sm_lsw, sm_gf, sm_pf, sm_al, sm_ll, sm_as, sm_lls, sm_alen, sm_na, sm_nw, sm_ac, sm_oi, sm_cS, sm_cV, sm_cI, sm_pop, sm_dup, sm_dup2, sm_iof, sm_l2i, sm_ir, sm_lr, sm_vr] at h
    first
      | cases h
      | (split at h <;> first
          | cases h
          | (split at h <;> first
              | cases h
              | (split at h <;> first
                  | cases h
                  | (split at h <;> first
                      | cases h
                      | (split at h <;> first
                          | cases h
                          | (split at h <;> cases h))))))
/-- what is new only grows -/
theorem sm_mono {cl : sm_K} {cd : Nat → Option sm_I} : ∀ (n pc : Nat) (ls : sm_L) (st : List Value) (hp : sm_H) (cc ss : Nat) (o : sm_O), sm_run cl cd n pc ls st hp cc ss = some o → cc ≤ o.2.2.1 ∧ ss ≤ o.2.2.2 := by
  intro n
  induction n with
  | zero => intro pc ls st hp cc ss o h; cases h
  | succ n ih =>
    intro pc ls st hp cc ss o h
    have h : sm_go cl (sm_run cl cd n) (cd pc) pc ls st hp cc ss = some o := h
    unfold sm_go at h
    split at h
    · unfold sm_nx at h
      split at h
      · cases h
      · have := ih _ _ _ _ _ _ _ h
        omega
      · split at h
        · split at h
          · have := ih _ _ _ _ _ _ _ h
            omega
          · cases h
        · cases h
      · cases h
        exact ⟨Nat.le_refl _, Nat.le_refl _⟩
    · cases h
/-- a method's start and end, by pictures -/
noncomputable def sm_pre (G : va_G) (cA : Nat → ClassId) (ad : Nat → Nat) (as : List Value) (hp : sm_H) (sz : Nat) : Array Value → State → Prop := va_Pc (as.map (sm_cv ad)) (fun U => U.heap.size = sz ∧ va_P G sm_cl (sm_pic cA ad hp) U.heap ∧ va_K G sm_cl (sm_ty cA) U ∧ va_D (fun _ => True) (sm_pic cA ad hp) ∧ (∀ w ∈ sm_NW, va_Nw w U) ∧ sm_Sx (va_A (sm_pic cA ad hp) sz) U U.heap)
noncomputable def sm_post (G : va_G) (cA : Nat → ClassId) (ad : Nat → Nat) (hp : sm_H) (sz : Nat) (o : sm_O) : Array Value → State → Outcome → State → Prop := fun _ st oc t => (∃ ad' : Nat → Nat, (∀ k, k < hp.length → ad' k = ad k) ∧ (o.2.2.1 = 0 → ad' = ad) ∧ hp.length ≤ o.2.1.length ∧ oc = .returned (o.1.map (sm_cv ad')) ∧ va_P G sm_cl (sm_pic cA ad' o.2.1) t.heap ∧ va_K G sm_cl (sm_ty cA) t ∧ va_D (va_A (sm_pic cA ad hp) sz) (sm_pic cA ad' o.2.1)) ∧ va_F (va_A (sm_pic cA ad hp) sz) st t
noncomputable def sm_ws (E : sm_M) : List Jvm.Cond := .code E.1 E.2.1 E.2.2.1 E.2.2.2.1 :: sm_W
set_option maxRecDepth 10000 in
theorem sm_rloc {z d r : Nat} (h1 : z ≤ 45) (h2 : 64 * d + 576 ≤ r) : 8 + (z + 11) + (64 * d + 512) ≤ r := by omega
noncomputable def sm_rm (d mc ms : Nat) : Room := { frames := d + 8, cells := mc, slots := ms, locals := 64 * d + 512 }
noncomputable def sm_Met (l : Launch) (d : Nat) (F : sm_K) : Prop := ∀ (G : va_G) (cA : Nat → ClassId) (ad : Nat → Nat) (μ : Nat) (as : List Value) (hp : sm_H) (o : sm_O) (E : sm_M) (sz : Nat), F μ as hp = some o → sm_mt μ = some E → E.2.2.1 ≤ 45 ∧ Met l E.1 (sm_ws E) (sm_rm d o.2.2.1 o.2.2.2) (sm_pre G cA ad as hp sz) (sm_post G cA ad hp sz o) o.2.2.1 o.2.2.2 (va_A (sm_pic cA ad hp) sz)
theorem sm_isN_of {w : Jvm.Cond} (h : w ∈ sm_NW) : ∃ a i x b, w = .methodLinkNest a i x b := by
  have h1 := (List.mem_filter.mp h).2
  unfold sm_isN at h1
  split at h1
  · exact ⟨_, _, _, _, rfl⟩
  · cases h1
theorem sm_nw_warm {s U : State} (hW : s.WarmedH U.vm) (h : ∀ w ∈ sm_NW, va_Nw w s) : ∀ w ∈ sm_NW, va_Nw w U := fun w hw => by
  obtain ⟨a, i, x, b, rfl⟩ := sm_isN_of hw
  exact va_Nw.warmM hW (h _ hw)
theorem sm_nw_same {s U : State} (hv : s.vm = U.vm) (h : ∀ w ∈ sm_NW, va_Nw w s) : ∀ w ∈ sm_NW, va_Nw w U := fun w hw => by
  obtain ⟨a, i, x, b, rfl⟩ := sm_isN_of hw
  exact va_Nw.same rfl hv (h _ hw)
theorem sm_blind {G : va_G} {cA : Nat → ClassId} {ad : Nat → Nat} {as : List Value} {hp : sm_H} {sz : Nat} : FrameBlind (sm_pre G cA ad as hp sz) := fun a U g mk q => by
  obtain ⟨q0, q1, qP, qK, qD, qN⟩ := q
  exact ⟨q0, q1, qP, va_K.moved (u := U) (U := U.calling g mk a) (Vm.Alike.refl U.vm) qK, qD, sm_nw_same (s := U) (U := U.calling g mk a) rfl qN.1, sm_Sx_same (s := U) (U := U.calling g mk a) rfl rfl qN.2⟩
theorem sm_good {μ : Nat} {E : sm_M} (hE : sm_mt μ = some E) : GoodIn sm_W (sm_ws E) := fun w hw => by
  rcases List.mem_cons.mp hw with rfl | hw
  · exact ⟨(sm_mw hE).1, sm_W_good _ (sm_mw hE).1⟩
  · exact ⟨hw, sm_W_good _ hw⟩
section SIM
variable {p : Program} {l : Launch} {e : Env} {R : Room} {s : State} {m : MethodId} {args : Array Value} {below : List Frame} {meth : Method} {c : Code} {H : Heap} {locs : List Loc} {cells slots : Nat} {Q : State → Prop}
variable {G : va_G} {cA : Nat → ClassId} {ad : Nat → Nat} {A : Nat → Prop} {arr : Array Slot} {pc : Nat} {ls : sm_L} {st : List Value} {hp : sm_H} {E : sm_M}
theorem sm_after {o : sm_O} {a : Array Value} {rest st0 : List Value} {free : Addr → Prop} (hr : va_Run p l e R s m args below meth c H locs cells slots o.2.2.1 o.2.2.2 (F0 m pc arr st0) rest (sm_post G cA ad hp H.size o a) free) (hS : va_S A s.heap H locs) (hA : ∀ q, va_A (sm_pic cA ad hp) H.size q → A q) (hf : ∀ q, free q → A q)
    (kk : ∀ (ad' : Nat → Nat) (H' : Heap) (locs' : List Loc), (∀ k, k < hp.length → ad' k = ad k) → (o.2.2.1 = 0 → ad' = ad) → hp.length ≤ o.2.1.length → va_P G sm_cl (sm_pic cA ad' o.2.1) H' → va_D A (sm_pic cA ad' o.2.1) → va_S A s.heap H' locs' → W p l e R s m args below meth c H' locs' (cells + o.2.2.1) (slots + o.2.2.2) Q (F0 m (pc + 3) arr ((o.1.map (sm_cv ad')).toList ++ rest))) : W p l e R s m args below meth c H locs cells slots Q (F0 m pc arr st0) := by
  intro T hT X
  obtain ⟨v, st₀, t, T', L, h0, X', hL, e1, e2, ⟨⟨ad', g1, g2, g3, g4, g5, g6, g7⟩, hz, hk⟩, st⟩ := hr T hT X
  cases g4
  rw [h0] at hz hk
  obtain ⟨t2, a1, b1⟩ := kk ad' T'.heap (locs ++ L) g1 g2 g3 (by rw [e1]; exact g5) (g7.weaken (fun _ q _ z => hA q.1 z))
    ⟨Nat.le_trans hS.1 (by rw [e1]; exact hz), fun q h1 h2 => by rw [e1, hk q (Nat.lt_of_lt_of_le h1 hS.1) (fun z => h2 (hA q z))]; exact hS.2.1 q h1 h2, fun q hq => by
      rcases List.mem_append.mp hq with h | h
      · exact hS.2.2 q h
      · exact hf _ (hL q h)⟩ T' rfl X'
  exact ⟨t2, st t2 a1, b1⟩
theorem sm_take_spec {k : Nat} {as r : List Value} (h : sm_take st k = some (as, r)) : st = as.reverse ++ r ∧ as.length = k ∧ sm_w r ≤ 8 := by
  unfold sm_take at h
  split at h
  · rename_i hc
    cases h
    refine ⟨by rw [List.reverse_reverse, List.take_append_drop], by rw [List.length_reverse, List.length_take]; omega, hc.2⟩
  · cases h
/-- a call -/
theorem sm_s_call {d : Nat} {cl : sm_K} {q : sm_I} {f : Nat × List Value × List Value} {o : sm_O} (hM : sm_Met l d cl) (X : sm_Cx p s m args meth c G cA A R E) (hR : d + 9 ≤ R.frames ∧ 64 * d + 576 ≤ R.locals) (hd : decode E.2.1 pc = .ok (q.1, q.2.1)) (hl : sm_sw q.1 = true ∨ q.2.1 = sm_len q.1) (hk : sm_lk E pc q.1 q.2.2.1 q.2.2.2 = true) (h : sm_x q pc ls st hp = some (.inr (.inl f))) (ho : cl f.1 f.2.1 hp = some o) (hc : cells + o.2.2.1 ≤ R.cells) (hs : slots + o.2.2.2 ≤ R.slots)
    (hL : sm_Lc ad ls E.2.2.1 arr) (hP : va_P G sm_cl (sm_pic cA ad hp) H) (hD : va_D A (sm_pic cA ad hp)) (hS : va_S A s.heap H locs)
    (kk : ∀ (ad' : Nat → Nat) (H' : Heap) (locs' : List Loc), (∀ k, k < hp.length → ad' k = ad k) → (o.2.2.1 = 0 → ad' = ad) → hp.length ≤ o.2.1.length → va_P G sm_cl (sm_pic cA ad' o.2.1) H' → va_D A (sm_pic cA ad' o.2.1) → va_S A s.heap H' locs' → W p l e R s m args below meth c H' locs' (cells + o.2.2.1) (slots + o.2.2.2) Q (F0 m (pc + 3) arr ((o.1.map (sm_cv ad')).toList ++ f.2.2.map (sm_cv ad)))) : W p l e R s m args below meth c H locs cells slots Q (F0 m pc arr (st.map (sm_cv ad))) := by
  obtain ⟨i, n, a, b⟩ := q
  dsimp only at hd hl hk
  obtain ⟨hx, hb, hml, hown, hts, hNw, hK, hA, hin, hfr, hlo⟩ := X
  have S : CallFix p m c E.2.1 E.2.2.1 s args sm_W (sm_o E.2.2.2.2.1) := ⟨hx, hb, hml, hown, hts⟩
  have hFree : ∀ q, va_A (sm_pic cA ad hp) H.size q → A q := fun q z => by
    rcases z with ⟨k, e0, z⟩ | z
    · exact hD.2 k (q, e0) z
    · exact hA q (Nat.le_trans hS.1 z)
  have hpre : ∀ (as : List Value) (U : State), U.heap = H → s.WarmedH U.vm → sm_pre G cA ad as hp H.size (as.map (sm_cv ad)).toArray U := fun as U hU hW => ⟨rfl, by rw [hU], by rw [hU]; exact hP, va_K.moved hW.alike hK, hD.weaken (fun _ _ _ _ => trivial), sm_nw_warm hW hNw.1, by rw [hU]; exact sm_Sx_up hW hS.2.1 hFree hNw.2⟩
  rcases sm_x_call h with ⟨idx, hi, h98, h97, hc1⟩ | ⟨idx, hi, h98, hc1⟩ | ⟨idx, hi, h99, hc1⟩
  · dsimp only at hi h98 h97 hc1
    subst hi
    unfold sm_cS at hc1
    split at hc1
    · rename_i F hF
      split at hc1
      · rename_i hkd
        split at hc1
        · rename_i qq hq
          cases hc1
          obtain ⟨as, r⟩ := qq
          dsimp only at ho kk
          obtain ⟨e1, e2, e3⟩ := sm_take_spec hq
          obtain ⟨m1, m2, m3, m4, m5, m6, m7, m8⟩ := sm_mw hF
          obtain ⟨hmax, hmet⟩ := hM G cA ad a as hp o F H.size ho hF
          have hw2 : ((r.map (sm_cv ad)).map fun v => v.category).sum ≤ 8 := by rw [sm_w_map]; exact e3
          have hst : (F0 m pc arr (st.map (sm_cv ad))).stack = (as.map (sm_cv ad)).reverse ++ r.map (sm_cv ad) := by
            show st.map (sm_cv ad) = _
            rw [e1, List.map_append, List.map_reverse]
          have hroom : (sm_rm d o.2.2.1 o.2.2.2).frames + 1 ≤ R.frames ∧ 8 + (F.2.2.1 + 11) + (sm_rm d o.2.2.1 o.2.2.2).locals ≤ R.locals := ⟨hR.1, sm_rloc hmax hR.2⟩
          have hlk : (if b = 1 then sm_NL.any (fun q => Nat.beq q.1 E.2.2.2.2.1 && Nat.beq q.2.1 idx && Nat.beq q.2.2 a) else sm_ML.any (fun q => Nat.beq q.1 E.2.2.2.2.1 && Nat.beq q.2.1 idx && Nat.beq q.2.2 a)) = true := by
            simp only [sm_lk, if_neg h98, if_neg h97, Bool.and_eq_true] at hk
            exact hk.1
          by_cases hb1 : b = 1
          · rw [if_pos hb1] at hlk
            obtain ⟨F', hF', hl'⟩ := sm_nl' hlk
            cases hF.symm.trans hF'
            exact sm_after (va_runSN (g := F0 m pc arr (st.map (sm_cv ad))) (As := as.map (sm_cv ad)) S hmet ⟨va_cnB (R := R) F.2.2.2.2.2.1 hts (sm_good hF) rfl rfl rfl (hNw.1 _ hl') (hts _ m2) ⟨m5.1.1, m5.1.2, m5.2⟩ hroom, hts _ (m6 hkd), trivial⟩ ⟨sm_blind, fun U hU hW => hpre as U hU hW⟩ rfl (by rw [List.length_map]; exact e2) hL.1 hst (lv_room hw2) (sm_d hd hl rfl) ⟨hc, hs⟩) hS hFree hFree kk
          · rw [if_neg hb1] at hlk
            obtain ⟨F', hF', hl'⟩ := sm_ml hlk
            cases hF.symm.trans hF'
            exact sm_after (va_runS (g := F0 m pc arr (st.map (sm_cv ad))) (As := as.map (sm_cv ad)) S hmet ⟨callB_of F.2.2.2.2.2.1 hts (sm_good hF) rfl rfl rfl (hts _ m2) (hts _ hl') ⟨m5.1.1, m5.1.2, m5.2⟩ hroom, hts _ (m6 hkd)⟩ ⟨sm_blind, fun U hU hW => hpre as U hU hW⟩ rfl (by rw [List.length_map]; exact e2) hL.1 hst (lv_room hw2) (sm_d hd hl rfl) ⟨hc, hs⟩) hS hFree hFree kk
        · cases hc1
      · cases hc1
    · cases hc1
  · dsimp only at hi h98 hc1
    subst hi
    unfold sm_cV at hc1
    split at hc1
    · rename_i F hF
      split at hc1
      · rename_i hkd
        split at hc1
        · rename_i k as r hq
          split at hc1
          · rename_i ob hob
            split at hc1
            · rename_i hoc
              cases hc1
              dsimp only at ho kk
              obtain ⟨e1, e2, e3⟩ := sm_take_spec hq
              obtain ⟨m1, m2, m3, m4, m5, m6, m7, m8⟩ := sm_mw hF
              obtain ⟨hmax, hmet⟩ := hM G cA ad a (.ref k :: as) hp o F H.size ho hF
              have hw2 : ((r.map (sm_cv ad)).map fun v => v.category).sum ≤ 8 := by rw [sm_w_map]; exact e3
              have hst : (F0 m pc arr (st.map (sm_cv ad))).stack = (as.map (sm_cv ad)).reverse ++ .ref (ad k) :: r.map (sm_cv ad) := by
                show st.map (sm_cv ad) = _
                rw [e1, List.map_append, List.map_reverse, List.map_cons, List.reverse_cons, List.append_assoc]
                rfl
              have hlen : (as.map (sm_cv ad)).length = F.2.2.2.2.2.1 := by
                rw [List.length_map]
                have e2 : as.length + 1 = F.2.2.2.2.2.1 + 1 := e2
                omega
              have hroom : (sm_rm d o.2.2.1 o.2.2.2).frames + 1 ≤ R.frames ∧ 8 + (F.2.2.1 + 11) + (sm_rm d o.2.2.1 o.2.2.2).locals ≤ R.locals := ⟨hR.1, sm_rloc hmax hR.2⟩
              have hlk : (if b = 1 then sm_NL.any (fun q => Nat.beq q.1 E.2.2.2.2.1 && Nat.beq q.2.1 idx && Nat.beq q.2.2 a) else sm_ML.any (fun q => Nat.beq q.1 E.2.2.2.2.1 && Nat.beq q.2.1 idx && Nat.beq q.2.2 a)) = true := by
                simp only [sm_lk, if_neg h98, Bool.and_eq_true] at hk
                exact hk.1
              have he : (sm_pic cA ad hp)[k]? = some (ad k, .inr (ob.1, ob.2.map (sm_cv ad))) := sm_pic_at hob
              have hcls : ∃ cell : Cell, H[ad k]? = some cell ∧ cell.vm.isStatics = false ∧ s.vm.findClass F.1.cls = some cell.cls := by
                obtain ⟨r0, hr0, -⟩ := hP k _ he
                have h4 := (sm_cw hr0).2.2.2.1
                rw [m3, ← hoc, h4]
                exact va_recv hK hP hr0 he
              have hpv : PreV s H F.1.cls (ad k) (sm_pre G cA ad (.ref k :: as) hp H.size) (as.map (sm_cv ad)) := ⟨sm_blind, hcls, fun U hU hW => hpre (.ref k :: as) U hU hW⟩
              by_cases hb1 : b = 1
              · rw [if_pos hb1] at hlk
                obtain ⟨F', hF', hl'⟩ := sm_nl' hlk
                cases hF.symm.trans hF'
                exact sm_after (va_runVN (g := F0 m pc arr (st.map (sm_cv ad))) (C := F.1.cls) (b := ad k) (As := as.map (sm_cv ad)) S hmet ⟨va_cnB (R := R) F.2.2.2.2.2.1 hts (sm_good hF) rfl rfl rfl (hNw.1 _ hl') (hts _ m2) ⟨m5.1.1, m5.1.2, m5.2⟩ hroom, hts _ (m7 hkd).1, hts _ (m7 hkd).2⟩ hpv rfl hlen hL.1 hst (lv_room hw2) (sm_d hd hl rfl) ⟨hc, hs⟩) hS hFree hFree kk
              · rw [if_neg hb1] at hlk
                obtain ⟨F', hF', hl'⟩ := sm_ml hlk
                cases hF.symm.trans hF'
                exact sm_after (va_runV (g := F0 m pc arr (st.map (sm_cv ad))) (C := F.1.cls) (b := ad k) (As := as.map (sm_cv ad)) S hmet ⟨callB_of F.2.2.2.2.2.1 hts (sm_good hF) rfl rfl rfl (hts _ m2) (hts _ hl') ⟨m5.1.1, m5.1.2, m5.2⟩ hroom, hts _ (m7 hkd).1, hts _ (m7 hkd).2⟩ hpv rfl hlen hL.1 hst (lv_room hw2) (sm_d hd hl rfl) ⟨hc, hs⟩) hS hFree hFree kk
            · cases hc1
          · cases hc1
        · cases hc1
      · cases hc1
    · cases hc1
  · dsimp only at hi h99 hc1
    subst hi
    unfold sm_cI at hc1
    split at hc1
    · rename_i F hF
      split at hc1
      · rename_i hkd
        split at hc1
        · rename_i k as r hq
          cases hc1
          dsimp only at ho kk
          obtain ⟨e1, e2, e3⟩ := sm_take_spec hq
          obtain ⟨m1, m2, m3, m4, m5, m6, m7, m8⟩ := sm_mw hF
          obtain ⟨hmax, hmet⟩ := hM G cA ad a (.ref k :: as) hp o F H.size ho hF
          have hw2 : ((r.map (sm_cv ad)).map fun v => v.category).sum ≤ 8 := by rw [sm_w_map]; exact e3
          have hst : (F0 m pc arr (st.map (sm_cv ad))).stack = (as.map (sm_cv ad)).reverse ++ .ref (ad k) :: r.map (sm_cv ad) := by
            show st.map (sm_cv ad) = _
            rw [e1, List.map_append, List.map_reverse, List.map_cons, List.reverse_cons, List.append_assoc]
            rfl
          have hlen : (as.map (sm_cv ad)).length = F.2.2.2.2.2.1 := by
            rw [List.length_map]
            have e2 : as.length + 1 = F.2.2.2.2.2.1 + 1 := e2
            omega
          have hroom : (sm_rm d o.2.2.1 o.2.2.2).frames + 1 ≤ R.frames ∧ 8 + (F.2.2.1 + 11) + (sm_rm d o.2.2.1 o.2.2.2).locals ≤ R.locals := ⟨hR.1, sm_rloc hmax hR.2⟩
          have hlk : (if b = 1 then sm_NL.any (fun q => Nat.beq q.1 E.2.2.2.2.1 && Nat.beq q.2.1 idx && Nat.beq q.2.2 a) else sm_ML.any (fun q => Nat.beq q.1 E.2.2.2.2.1 && Nat.beq q.2.1 idx && Nat.beq q.2.2 a)) = true := by
            simp only [sm_lk, if_neg h99, Bool.and_eq_true] at hk
            exact hk.1
          have hret : F.2.2.2.1 = none := (m8 hkd).2.2
          have hwn : sm_ws F = .code F.1 F.2.1 F.2.2.1 none :: sm_W := by unfold sm_ws; rw [hret]
          by_cases hb1 : b = 1
          · rw [if_pos hb1] at hlk
            obtain ⟨F', hF', hl'⟩ := sm_nl' hlk
            cases hF.symm.trans hF'
            exact sm_after (va_runIN (g := F0 m pc arr (st.map (sm_cv ad))) (b := ad k) (As := as.map (sm_cv ad)) S hmet ⟨va_cnB (R := R) F.2.2.2.2.2.1 hts (sm_good hF) hwn rfl rfl (hNw.1 _ hl') (hts _ m2) ⟨m5.1.1, m5.1.2, m5.2⟩ hroom, (m8 hkd).2.1, hts _ (m8 hkd).1⟩ ⟨sm_blind, fun U hU hW => hpre (.ref k :: as) U hU hW⟩ rfl hlen hL.1 hst (lv_room hw2) (sm_d hd hl rfl) ⟨hc, hs⟩) hS hFree hFree kk
          · rw [if_neg hb1] at hlk
            obtain ⟨F', hF', hl'⟩ := sm_ml hlk
            cases hF.symm.trans hF'
            exact sm_after (va_runI (g := F0 m pc arr (st.map (sm_cv ad))) (b := ad k) (As := as.map (sm_cv ad)) S hmet ⟨callB_of F.2.2.2.2.2.1 hts (sm_good hF) hwn rfl rfl (hts _ m2) (hts _ hl') ⟨m5.1.1, m5.1.2, m5.2⟩ hroom, (m8 hkd).2.1, hts _ (m8 hkd).1⟩ ⟨sm_blind, fun U hU hW => hpre (.ref k :: as) U hU hW⟩ rfl hlen hL.1 hst (lv_room hw2) (sm_d hd hl rfl) ⟨hc, hs⟩) hS hFree hFree kk
        · cases hc1
      · cases hc1
    · cases hc1
end SIM
