section RUN
variable {l : Launch}
set_option maxRecDepth 10000 in
theorem sm_sim {d : Nat} {cl : sm_K} (hM : sm_Met l d cl) {μ : Nat} {E : sm_M} (hE : sm_mt μ = some E) : ∀ (n pc : Nat) (ls : sm_L) (st : List Value) (hp : sm_H) (cc ss : Nat) (o : sm_O), sm_run cl E.2.2.2.2.2.2.2.2 n pc ls st hp cc ss = some o →
    ∀ {p : Program} {e : Env} {R : Room} {s : State} {m : MethodId} {args : Array Value} {below : List Frame} {meth : Method} {c : Code} {H : Heap} {locs : List Loc} {G : va_G} {cA : Nat → ClassId} {ad ad0 : Nat → Nat} {arr : Array Slot} {hp0 : sm_H},
    sm_Cx p s m args meth c G cA (va_A (sm_pic cA ad0 hp0) s.heap.size) R E → meth.sig.returnType = E.2.2.2.1 → meth.locks = false → R = sm_rm (d + 1) o.2.2.1 o.2.2.2 → (∀ k, k < hp0.length → ad k = ad0 k) → (cc = 0 → ad = ad0) → hp0.length ≤ hp.length →
    sm_Lc ad ls E.2.2.1 arr → va_P G sm_cl (sm_pic cA ad hp) H → va_D (va_A (sm_pic cA ad0 hp0) s.heap.size) (sm_pic cA ad hp) → va_S (va_A (sm_pic cA ad0 hp0) s.heap.size) s.heap H locs →
    W p l e R s m args below meth c H locs cc ss (MQ below (sm_post G cA ad0 hp0 s.heap.size o) args s o.2.2.1 o.2.2.2 (va_A (sm_pic cA ad0 hp0) s.heap.size)) (F0 m pc arr (st.map (sm_cv ad))) := by
  intro n
  induction n with
  | zero => intro pc ls st hp cc ss o h; cases h
  | succ n ih =>
    intro pc ls st hp cc ss o h p e R s m args below meth c H locs G cA ad ad0 arr hp0 X hr hlk hR hag h0 hlen hL hP hD hS
    have hmono := sm_mono (n + 1) pc ls st hp cc ss o h
    have h : sm_go cl (sm_run cl E.2.2.2.2.2.2.2.2 n) (E.2.2.2.2.2.2.2.2 pc) pc ls st hp cc ss = some o := h
    unfold sm_go at h
    split at h
    · rename_i q hq
      obtain ⟨hd, hl, hk⟩ := sm_at hE hq
      unfold sm_nx at h
      split at h
      · cases h
      · rename_i f hf
        have hm2 := sm_mono n _ _ _ _ _ _ _ h
        refine sm_step X hd hl hk hf (by rw [hR]; exact hm2.1) (by rw [hR]; exact hm2.2) hL hP hD hS (fun ad' arr' H' locs' g1 g2 g3 g4 g5 g6 g7 => ?_)
        exact ih _ _ _ _ _ _ o h X hr hlk hR (fun k hk => (g1 k (by omega)).trans (hag k hk)) (fun z => (g2 (by omega)).trans (h0 (by omega))) (by omega) g4 g5 g6 g7
      · rename_i f hf
        split at h
        · rename_i o1 ho1
          split at h
          · rename_i hck
            have hm2 := sm_mono n _ _ _ _ _ _ _ h
            refine sm_s_call hM X ⟨by rw [hR]; show d + 9 ≤ d + 1 + 8; omega, by rw [hR]; show 64 * d + 576 ≤ 64 * (d + 1) + 512; omega⟩ hd hl hk hf ho1 (by rw [hR]; exact hm2.1) (by rw [hR]; exact hm2.2) hL hP hD hS (fun ad' H' locs' g1 g2 g3 g5 g6 g7 => ?_)
            have hLs : sm_Lc ad' ls E.2.2.1 arr ∧ f.2.2.map (sm_cv ad') = f.2.2.map (sm_cv ad) := by
              rcases hck with z | z
              · rw [g2 z]; exact ⟨hL, rfl⟩
              · exact ⟨sm_Lc_ext hL z.1 g1, sm_st_ext z.2 g1⟩
            have k := ih (pc + 3) ls (o1.1.toList ++ f.2.2) o1.2.1 (cc + o1.2.2.1) (ss + o1.2.2.2) o h (e := e) (below := below) (locs := locs') X hr hlk hR (fun k hk => (g1 k (by omega)).trans (hag k hk)) (fun z => (g2 (by omega)).trans (h0 (by omega))) (by omega) hLs.1 g5 g6 g7
            rw [List.map_append, hLs.2] at k
            have ev : (o1.1.toList).map (sm_cv ad') = (o1.1.map (sm_cv ad')).toList := by cases o1.1 <;> rfl
            rw [ev] at k
            exact k
          · cases h
        · cases h
      · rename_i v hf
        cases h
        have fin : ∀ (t : State), t.heap = H → s.WarmedH t.vm → sm_post G cA ad0 hp0 s.heap.size (v, hp, cc, ss) args s (.returned (v.map (sm_cv ad))) t := fun t ht hW => ⟨⟨ad, hag, h0, hlen, rfl, by rw [ht]; exact hP, va_K.moved hW.alike X.2.2.2.2.2.2.1, hD⟩, hS.F ht⟩
        obtain ⟨i, nn, a, b⟩ := q
        dsimp only at hd hl hk
        rcases sm_x_ret hf with ⟨hi, h1⟩ | ⟨hi, h1⟩ | ⟨hi, h1⟩
        · dsimp only at hi h1
          subst hi
          unfold sm_ir at h1
          split at h1
          · rename_i x
            split at h1
            · rename_i hb
              cases h1
              have hk := of_decide_eq_true hk
              rcases hk with ⟨hb0, hrt⟩ | ⟨hb0, hrt⟩
              · exact W.iret X.1 X.2.1 (hr.trans hrt) fin hS.2.2 (sm_d hd hl rfl) hlk
              · have hx01 : x = 0 ∨ x = 1 := by
                  rcases hb with z | z
                  · omega
                  · exact z.2
                refine W.zret X.1 X.2.1 (hr.trans hrt) ?_ fin hS.2.2 (sm_d hd hl rfl) hlk
                rcases hx01 with rfl | rfl
                · exact (by decide +kernel : narrow .boolean (.int 0) = .int 0)
                · exact (by decide +kernel : narrow .boolean (.int 1) = .int 1)
            · cases h1
          · cases h1
        · dsimp only at hi h1
          subst hi
          unfold sm_lr at h1
          split at h1
          · cases h1
            exact W.lret X.1 X.2.1 (hr.trans (of_decide_eq_true hk)) fin hS.2.2 (sm_d hd hl rfl) hlk
          · cases h1
        · dsimp only at hi h1
          subst hi
          unfold sm_vr at h1
          split at h1
          · cases h1
            exact W.vret X.1 X.2.1 (hr.trans (of_decide_eq_true hk)) fin hS.2.2 (sm_d hd hl rfl) hlk
          · cases h1
    · cases h
theorem sm_loc0 (as : List Value) : (sm_loc as 0).length = (lg_sl as).length := by
  induction as with
  | nil => rfl
  | cons v t ih =>
    unfold sm_loc lg_sl at ih ⊢
    simp only [Nat.zero_sub, List.replicate_zero, List.append_nil, List.flatMap_cons, List.length_append] at ih ⊢
    rw [ih]
    split <;> rfl
set_option maxRecDepth 10000 in
/-- a method that the shadow machine runs is met by the machine -/
theorem sm_meets (n : Nat) : ∀ d, sm_Met l d (sm_call n d) := by
  intro d
  induction d with
  | zero => intro G cA ad μ as hp o E sz h; cases h
  | succ d ih =>
    intro G cA ad μ as hp o E sz h hE
    have h : (match sm_mt μ with
      | some E => if (sm_loc as 0).length ≤ E.2.2.1 ∧ E.2.2.1 ≤ 45 then sm_run (sm_call n d) E.2.2.2.2.2.2.2.2 n 0 (sm_loc as E.2.2.1) [] hp 0 0 else none
      | none => none) = some o := h
    rw [hE] at h
    dsimp only at h
    split at h
    · rename_i hfit
      refine ⟨hfit.2, ?_⟩
      refine va_MetF (cc := E.2.1) (maxL := E.2.2.1) (ret := E.2.2.2.1) (sm_mw hE).2.2.2.1 rfl ?_
      intro p e s m args below meth c s₁ B hml hv
      obtain ⟨rfl, hsz, hP, hK, hD0, hN⟩ := hv
      have hts0 := atoms_spec (ws := sm_ws E) B.pre
      have hts : ∀ w ∈ sm_W, w.before (as.map (sm_cv ad)).toArray s = true := fun w hw => hts0 w (List.mem_cons_of_mem _ hw)
      have hown : s.vm.findClass (sm_o E.2.2.2.2.1) = some m.cls := by
        rw [← (sm_mw hE).2.2.1]
        exact findClass_of_methodNamed B.named
      have hin : E.1.name = "<init>" → meth.name = "<init>" := fun z => by rw [(name_of_methodNamed B.named B.method).1]; exact z
      subst hsz
      have hD := hD0.self (sz := s.heap.size)
      have X : sm_Cx p s m (as.map (sm_cv ad)).toArray meth c G cA (va_A (sm_pic cA ad hp) s.heap.size) (sm_rm (d + 1) o.2.2.1 o.2.2.2) E := ⟨B.exec, B.bytes, hml, hown, hts, hN, hK, fun q z => Or.inr z, hin, by show 9 ≤ d + 1 + 8; omega, by show 576 ≤ 64 * (d + 1) + 512; omega⟩
      rw [lg_entry_eq]
      exact sm_sim ih hE n 0 (sm_loc as E.2.2.1) [] hp 0 0 o h X B.returns B.notSynchronized rfl (fun _ _ => rfl) (fun _ => rfl) (Nat.le_refl _) (sm_Lc_in (by rw [← sm_loc0]; exact hfit.1)) hP hD va_S.rf
    · cases h
end RUN
